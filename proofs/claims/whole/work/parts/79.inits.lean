/-! making the objects: laws of new cells, small constructors -/
section HR
variable (H : zHp) (o a j : Nat)
theorem h_rFs (f : Nat → Value) : (zrF H o f).1 o j = f j := if_pos rfl
theorem h_rFn (f : Nat → Value) (h : a ≠ o) : (zrF H o f).1 a j = H.1 a j := if_neg h
theorem h_rFI (f : Nat → Value) : (zrF H o f).2.1 = H.2.1 := rfl
theorem h_rFL (f : Nat → Value) : (zrF H o f).2.2 = H.2.2 := rfl
theorem h_rIs (f : Nat → Int32) : (zrI H o f).2.1 o j = f j := if_pos rfl
theorem h_rIn (f : Nat → Int32) (h : a ≠ o) : (zrI H o f).2.1 a j = H.2.1 a j := if_neg h
theorem h_rIF (f : Nat → Int32) : (zrI H o f).1 = H.1 := rfl
theorem h_rIL (f : Nat → Int32) : (zrI H o f).2.2 = H.2.2 := rfl
theorem h_rLs (f : Nat → Int64) : (zrL H o f).2.2 o j = f j := if_pos rfl
theorem h_rLn (f : Nat → Int64) (h : a ≠ o) : (zrL H o f).2.2 a j = H.2.2 a j := if_neg h
theorem h_rLF (f : Nat → Int64) : (zrL H o f).1 = H.1 := rfl
theorem h_rLI (f : Nat → Int64) : (zrL H o f).2.1 = H.2.1 := rfl
end HR
theorem zn_lt {a b : Nat} (h : a < b) : (a < b) = True := eq_true h
theorem zn_le {a b : Nat} (h : a ≤ b) : (a ≤ b) = True := eq_true h
theorem zsm_rF {T : Nat → Prop} {H H1 : zHp} {o : Nat} {f : Nat → Value} (h : zsm T H H1) (ho : T o) : zsm T H (zrF H1 o f) := zsm_tr h (fun a ha => ⟨funext fun j => h_rFn H1 o a j f (fun e => ha (e ▸ ho)), rfl, rfl⟩)
theorem zsm_rI {T : Nat → Prop} {H H1 : zHp} {o : Nat} {f : Nat → Int32} (h : zsm T H H1) (ho : T o) : zsm T H (zrI H1 o f) := zsm_tr h (fun a ha => ⟨rfl, funext fun j => h_rIn H1 o a j f (fun e => ha (e ▸ ho)), rfl⟩)
theorem zsm_rL {T : Nat → Prop} {H H1 : zHp} {o : Nat} {f : Nat → Int64} (h : zsm T H H1) (ho : T o) : zsm T H (zrL H1 o f) := zsm_tr h (fun a ha => ⟨rfl, rfl, funext fun j => h_rLn H1 o a j f (fun e => ha (e ▸ ho))⟩)
theorem po_0 {n : Nat} (h : 0 < n) : zokO n 0 7 = True := eq_true ⟨h, rfl⟩
theorem po_1 {n : Nat} (h : 1 < n) : zokO n 1 0 = True := eq_true ⟨h, rfl⟩
theorem po_2 {n : Nat} (h : 2 < n) : zokA n 2 2 = True := eq_true ⟨h, rfl⟩
theorem po_3 {n : Nat} (h : 3 < n) : zokA n 3 4 = True := eq_true ⟨h, rfl⟩
theorem po_4 {n : Nat} (h : 4 < n) : zokO n 4 6 = True := eq_true ⟨h, rfl⟩
theorem po_5 {n : Nat} (h : 5 < n) : zokA n 5 1 = True := eq_true ⟨h, rfl⟩
theorem po_6 {n : Nat} (h : 6 < n) : zokO n 6 5 = True := eq_true ⟨h, rfl⟩
theorem po_7 {n : Nat} (h : 7 < n) : zokA n 7 2 = True := eq_true ⟨h, rfl⟩
theorem po_8 {n : Nat} (h : 8 < n) : zokO n 8 2 = True := eq_true ⟨h, rfl⟩
theorem po_9 {n : Nat} (h : 9 < n) : zokA n 9 1 = True := eq_true ⟨h, rfl⟩
theorem po_10 {n : Nat} (h : 10 < n) : zokO n 10 3 = True := eq_true ⟨h, rfl⟩
theorem po_11 {n : Nat} (h : 11 < n) : zokA n 11 1 = True := eq_true ⟨h, rfl⟩
theorem po_12 {n : Nat} (h : 12 < n) : zokO n 12 3 = True := eq_true ⟨h, rfl⟩
theorem po_13 {n : Nat} (h : 13 < n) : zokA n 13 1 = True := eq_true ⟨h, rfl⟩
theorem po_14 {n : Nat} (h : 14 < n) : zokO n 14 4 = True := eq_true ⟨h, rfl⟩
theorem po_15 {n : Nat} (h : 15 < n) : zokO n 15 3 = True := eq_true ⟨h, rfl⟩
theorem po_16 {n : Nat} (h : 16 < n) : zokA n 16 1 = True := eq_true ⟨h, rfl⟩
theorem po_17 {n : Nat} (h : 17 < n) : zokA n 17 1 = True := eq_true ⟨h, rfl⟩
theorem po_18 {n : Nat} (h : 18 < n) : zokA n 18 1 = True := eq_true ⟨h, rfl⟩
theorem po_19 {n : Nat} (h : 19 < n) : zokA n 19 2 = True := eq_true ⟨h, rfl⟩
theorem po_20 {n : Nat} (h : 20 < n) : zokA n 20 2 = True := eq_true ⟨h, rfl⟩
theorem po_21 {n : Nat} (h : 21 < n) : zokO n 21 1 = True := eq_true ⟨h, rfl⟩
theorem po_22 {n : Nat} (h : 22 < n) : zokA n 22 3 = True := eq_true ⟨h, rfl⟩
theorem po_23 {n : Nat} (h : 23 < n) : zokO n 23 1 = True := eq_true ⟨h, rfl⟩
theorem po_24 {n : Nat} (h : 24 < n) : zokA n 24 3 = True := eq_true ⟨h, rfl⟩
theorem po_25 {n : Nat} (h : 25 < n) : zokA n 25 1 = True := eq_true ⟨h, rfl⟩
theorem po_50 {n : Nat} (h : 50 < n) : zokO n 50 8 = True := eq_true ⟨h, rfl⟩
theorem po_51 {n : Nat} (h : 51 < n) : zokA n 51 1 = True := eq_true ⟨h, rfl⟩
theorem po_52 {n : Nat} (h : 52 < n) : zokA n 52 1 = True := eq_true ⟨h, rfl⟩
theorem po_53 {n : Nat} (h : 53 < n) : zokA n 53 1 = True := eq_true ⟨h, rfl⟩
theorem po_54 {n : Nat} (h : 54 < n) : zokA n 54 1 = True := eq_true ⟨h, rfl⟩
theorem po_55 {n : Nat} (h : 55 < n) : zokA n 55 1 = True := eq_true ⟨h, rfl⟩
theorem po_56 {n : Nat} (h : 56 < n) : zokA n 56 1 = True := eq_true ⟨h, rfl⟩
theorem po_57 {n : Nat} (h : 57 < n) : zokA n 57 1 = True := eq_true ⟨h, rfl⟩
theorem po_58 {n : Nat} (h : 58 < n) : zokA n 58 1 = True := eq_true ⟨h, rfl⟩
theorem po_59 {n : Nat} (h : 59 < n) : zokA n 59 1 = True := eq_true ⟨h, rfl⟩
theorem po_60 {n : Nat} (h : 60 < n) : zokA n 60 1 = True := eq_true ⟨h, rfl⟩
theorem po_61 {n : Nat} (h : 61 < n) : zokA n 61 1 = True := eq_true ⟨h, rfl⟩
theorem po_62 {n : Nat} (h : 62 < n) : zokA n 62 1 = True := eq_true ⟨h, rfl⟩
theorem po_63 {n : Nat} (h : 63 < n) : zokA n 63 1 = True := eq_true ⟨h, rfl⟩
theorem po_64 {n : Nat} (h : 64 < n) : zokA n 64 1 = True := eq_true ⟨h, rfl⟩
theorem new_5_2 : ((zsh 2).1 = 2) = True := eq_true rfl
theorem new_5_2k : zokN 5 2 2 = True := eq_true (by unfold zokN; decide +kernel)
theorem zmC_5 : zmC 5 = 1 := rfl
theorem end_5 : zokE 5 2 3 = True := eq_true (by unfold zokE; decide +kernel)
theorem new_62_5 : ((zsh 5).1 = 1) = True := eq_true rfl
theorem new_62_5k : zokN 62 5 5 = True := eq_true (by unfold zokN; decide +kernel)
theorem zmC_62 : zmC 62 = 1 := rfl
theorem end_62 : zokE 62 5 6 = True := eq_true (by unfold zokE; decide +kernel)
theorem new_57_7 : ((zsh 7).1 = 2) = True := eq_true rfl
theorem new_57_7k : zokN 57 7 7 = True := eq_true (by unfold zokN; decide +kernel)
theorem zmC_57 : zmC 57 = 1 := rfl
theorem end_57 : zokE 57 7 8 = True := eq_true (by unfold zokE; decide +kernel)
theorem new_26_9 : ((zsh 9).1 = 1) = True := eq_true rfl
theorem new_26_9k : zokN 26 9 9 = True := eq_true (by unfold zokN; decide +kernel)
theorem zmC_26 : zmC 26 = 1 := rfl
theorem end_26 : zokE 26 9 10 = True := eq_true (by unfold zokE; decide +kernel)
theorem new_45_15 : (zsh 15 = (0, 3)) = True := eq_true rfl
theorem new_45_15k : zokN 45 15 15 = True := eq_true (by unfold zokN; decide +kernel)
theorem inv_45_16 : (zss 16 + zmS 34 ≤ zss 15 + zmS 45) = True := eq_true (by decide +kernel)
theorem inv_45_16e : (zss 17 = zss 16 + zmS 34) = True := eq_true (by decide +kernel)
theorem zmC_34 : zmC 34 = 1 := rfl
theorem new_45_17 : ((zsh 17).1 = 1) = True := eq_true rfl
theorem new_45_17k : zokN 45 15 17 = True := eq_true (by unfold zokN; decide +kernel)
theorem new_45_18 : ((zsh 18).1 = 1) = True := eq_true rfl
theorem new_45_18k : zokN 45 15 18 = True := eq_true (by unfold zokN; decide +kernel)
theorem new_45_19 : ((zsh 19).1 = 2) = True := eq_true rfl
theorem new_45_19k : zokN 45 15 19 = True := eq_true (by unfold zokN; decide +kernel)
theorem new_45_20 : ((zsh 20).1 = 2) = True := eq_true rfl
theorem new_45_20k : zokN 45 15 20 = True := eq_true (by unfold zokN; decide +kernel)
theorem zmC_45 : zmC 45 = 6 := rfl
theorem end_45 : zokE 45 15 21 = True := eq_true (by unfold zokE; decide +kernel)
theorem new_74_1 : (zsh 1 = (0, 0)) = True := eq_true rfl
theorem new_74_1k : zokN 74 1 1 = True := eq_true (by unfold zokN; decide +kernel)
theorem new_74_3 : ((zsh 3).1 = 4) = True := eq_true rfl
theorem new_74_3k : zokN 74 1 3 = True := eq_true (by unfold zokN; decide +kernel)
theorem new_74_4 : (zsh 4 = (0, 6)) = True := eq_true rfl
theorem new_74_4k : zokN 74 1 4 = True := eq_true (by unfold zokN; decide +kernel)
theorem new_74_6 : (zsh 6 = (0, 5)) = True := eq_true rfl
theorem new_74_6k : zokN 74 1 6 = True := eq_true (by unfold zokN; decide +kernel)
theorem new_74_8 : (zsh 8 = (0, 2)) = True := eq_true rfl
theorem new_74_8k : zokN 74 1 8 = True := eq_true (by unfold zokN; decide +kernel)
theorem new_74_10 : (zsh 10 = (0, 3)) = True := eq_true rfl
theorem new_74_10k : zokN 74 1 10 = True := eq_true (by unfold zokN; decide +kernel)
theorem new_74_12 : (zsh 12 = (0, 3)) = True := eq_true rfl
theorem new_74_12k : zokN 74 1 12 = True := eq_true (by unfold zokN; decide +kernel)
theorem new_74_14 : (zsh 14 = (0, 4)) = True := eq_true rfl
theorem new_74_14k : zokN 74 1 14 = True := eq_true (by unfold zokN; decide +kernel)
theorem new_74_21 : (zsh 21 = (0, 1)) = True := eq_true rfl
theorem new_74_21k : zokN 74 1 21 = True := eq_true (by unfold zokN; decide +kernel)
theorem new_74_23 : (zsh 23 = (0, 1)) = True := eq_true rfl
theorem new_74_23k : zokN 74 1 23 = True := eq_true (by unfold zokN; decide +kernel)
theorem new_74_25 : ((zsh 25).1 = 1) = True := eq_true rfl
theorem new_74_25k : zokN 74 1 25 = True := eq_true (by unfold zokN; decide +kernel)
theorem inv_74_2 : (zss 2 + zmS 5 ≤ zss 1 + zmS 74) = True := eq_true (by decide +kernel)
theorem inv_74_2e : (zss 3 = zss 2 + zmS 5) = True := eq_true (by decide +kernel)
theorem inv_74_5 : (zss 5 + zmS 62 ≤ zss 1 + zmS 74) = True := eq_true (by decide +kernel)
theorem inv_74_5e : (zss 6 = zss 5 + zmS 62) = True := eq_true (by decide +kernel)
theorem inv_74_7 : (zss 7 + zmS 57 ≤ zss 1 + zmS 74) = True := eq_true (by decide +kernel)
theorem inv_74_7e : (zss 8 = zss 7 + zmS 57) = True := eq_true (by decide +kernel)
theorem inv_74_9 : (zss 9 + zmS 26 ≤ zss 1 + zmS 74) = True := eq_true (by decide +kernel)
theorem inv_74_9e : (zss 10 = zss 9 + zmS 26) = True := eq_true (by decide +kernel)
theorem inv_74_11 : (zss 11 + zmS 34 ≤ zss 1 + zmS 74) = True := eq_true (by decide +kernel)
theorem inv_74_11e : (zss 12 = zss 11 + zmS 34) = True := eq_true (by decide +kernel)
theorem inv_74_13 : (zss 13 + zmS 34 ≤ zss 1 + zmS 74) = True := eq_true (by decide +kernel)
theorem inv_74_13e : (zss 14 = zss 13 + zmS 34) = True := eq_true (by decide +kernel)
theorem inv_74_15 : (zss 15 + zmS 45 ≤ zss 1 + zmS 74) = True := eq_true (by decide +kernel)
theorem inv_74_15e : (zss 21 = zss 15 + zmS 45) = True := eq_true (by decide +kernel)
theorem inv_74_22 : (zss 22 + zmS 19 ≤ zss 1 + zmS 74) = True := eq_true (by decide +kernel)
theorem inv_74_22e : (zss 23 = zss 22 + zmS 19) = True := eq_true (by decide +kernel)
theorem zmC_19 : zmC 19 = 1 := rfl
theorem inv_74_24 : (zss 24 + zmS 19 ≤ zss 1 + zmS 74) = True := eq_true (by decide +kernel)
theorem inv_74_24e : (zss 25 = zss 24 + zmS 19) = True := eq_true (by decide +kernel)
theorem zmC_74 : zmC 74 = 49 := rfl
theorem end_74 : zokE 74 1 50 = True := eq_true (by unfold zokE; decide +kernel)
theorem new_114_51 : ((zsh 51).1 = 1) = True := eq_true rfl
theorem new_114_51k : zokN 114 51 51 = True := eq_true (by unfold zokN; decide +kernel)
theorem new_114_52 : ((zsh 52).1 = 1) = True := eq_true rfl
theorem new_114_52k : zokN 114 51 52 = True := eq_true (by unfold zokN; decide +kernel)
theorem new_114_53 : ((zsh 53).1 = 1) = True := eq_true rfl
theorem new_114_53k : zokN 114 51 53 = True := eq_true (by unfold zokN; decide +kernel)
theorem new_114_54 : ((zsh 54).1 = 1) = True := eq_true rfl
theorem new_114_54k : zokN 114 51 54 = True := eq_true (by unfold zokN; decide +kernel)
theorem new_114_55 : ((zsh 55).1 = 1) = True := eq_true rfl
theorem new_114_55k : zokN 114 51 55 = True := eq_true (by unfold zokN; decide +kernel)
theorem new_114_56 : ((zsh 56).1 = 1) = True := eq_true rfl
theorem new_114_56k : zokN 114 51 56 = True := eq_true (by unfold zokN; decide +kernel)
theorem new_114_57 : ((zsh 57).1 = 1) = True := eq_true rfl
theorem new_114_57k : zokN 114 51 57 = True := eq_true (by unfold zokN; decide +kernel)
theorem new_114_58 : ((zsh 58).1 = 1) = True := eq_true rfl
theorem new_114_58k : zokN 114 51 58 = True := eq_true (by unfold zokN; decide +kernel)
theorem new_114_59 : ((zsh 59).1 = 1) = True := eq_true rfl
theorem new_114_59k : zokN 114 51 59 = True := eq_true (by unfold zokN; decide +kernel)
theorem new_114_60 : ((zsh 60).1 = 1) = True := eq_true rfl
theorem new_114_60k : zokN 114 51 60 = True := eq_true (by unfold zokN; decide +kernel)
theorem new_114_61 : ((zsh 61).1 = 1) = True := eq_true rfl
theorem new_114_61k : zokN 114 51 61 = True := eq_true (by unfold zokN; decide +kernel)
theorem new_114_62 : ((zsh 62).1 = 1) = True := eq_true rfl
theorem new_114_62k : zokN 114 51 62 = True := eq_true (by unfold zokN; decide +kernel)
theorem new_114_63 : ((zsh 63).1 = 1) = True := eq_true rfl
theorem new_114_63k : zokN 114 51 63 = True := eq_true (by unfold zokN; decide +kernel)
theorem new_114_64 : ((zsh 64).1 = 1) = True := eq_true rfl
theorem new_114_64k : zokN 114 51 64 = True := eq_true (by unfold zokN; decide +kernel)
theorem zmC_114 : zmC 114 = 14 := rfl
theorem end_114 : zokE 114 51 65 = True := eq_true (by unfold zokE; decide +kernel)
theorem new_176_0 : (zsh 0 = (0, 7)) = True := eq_true rfl
theorem new_176_0k : zokN 176 0 0 = True := eq_true (by unfold zokN; decide +kernel)
theorem inv_176_1 : (zss 1 + zmS 74 ≤ zss 0 + zmS 176) = True := eq_true (by decide +kernel)
theorem inv_176_1e : (zss 50 = zss 1 + zmS 74) = True := eq_true (by decide +kernel)
theorem new_176_50 : (zsh 50 = (0, 8)) = True := eq_true rfl
theorem new_176_50k : zokN 176 0 50 = True := eq_true (by unfold zokN; decide +kernel)
theorem inv_176_51 : (zss 51 + zmS 114 ≤ zss 0 + zmS 176) = True := eq_true (by decide +kernel)
theorem inv_176_51e : (zss 65 = zss 51 + zmS 114) = True := eq_true (by decide +kernel)
theorem zmC_176 : zmC 176 = 65 := rfl
theorem end_176 : zokE 176 0 65 = True := eq_true (by unfold zokE; decide +kernel)
theorem ad_0 : 0 + 1 = 1 := by omega
theorem ad_1 : 1 + 1 = 2 := by omega
theorem ad_2 : 2 + 1 = 3 := by omega
theorem ad_3 : 3 + 1 = 4 := by omega
theorem ad_4 : 4 + 1 = 5 := by omega
theorem ad_5 : 5 + 1 = 6 := by omega
theorem ad_6 : 6 + 1 = 7 := by omega
theorem ad_7 : 7 + 1 = 8 := by omega
theorem ad_8 : 8 + 1 = 9 := by omega
theorem ad_9 : 9 + 1 = 10 := by omega
theorem ad_10 : 10 + 1 = 11 := by omega
theorem ad_11 : 11 + 1 = 12 := by omega
theorem ad_12 : 12 + 1 = 13 := by omega
theorem ad_13 : 13 + 1 = 14 := by omega
theorem ad_14 : 14 + 1 = 15 := by omega
theorem ad_15 : 15 + 1 = 16 := by omega
theorem ad_16 : 16 + 1 = 17 := by omega
theorem ad_17 : 17 + 1 = 18 := by omega
theorem ad_18 : 18 + 1 = 19 := by omega
theorem ad_19 : 19 + 1 = 20 := by omega
theorem ad_20 : 20 + 1 = 21 := by omega
theorem ad_21 : 21 + 1 = 22 := by omega
theorem ad_22 : 22 + 1 = 23 := by omega
theorem ad_23 : 23 + 1 = 24 := by omega
theorem ad_24 : 24 + 1 = 25 := by omega
theorem ad_25 : 25 + 1 = 26 := by omega
theorem ad_26 : 26 + 1 = 27 := by omega
theorem ad_27 : 27 + 1 = 28 := by omega
theorem ad_28 : 28 + 1 = 29 := by omega
theorem ad_29 : 29 + 1 = 30 := by omega
theorem ad_30 : 30 + 1 = 31 := by omega
theorem ad_31 : 31 + 1 = 32 := by omega
theorem ad_32 : 32 + 1 = 33 := by omega
theorem ad_33 : 33 + 1 = 34 := by omega
theorem ad_34 : 34 + 1 = 35 := by omega
theorem ad_35 : 35 + 1 = 36 := by omega
theorem ad_36 : 36 + 1 = 37 := by omega
theorem ad_37 : 37 + 1 = 38 := by omega
theorem ad_38 : 38 + 1 = 39 := by omega
theorem ad_39 : 39 + 1 = 40 := by omega
theorem ad_40 : 40 + 1 = 41 := by omega
theorem ad_41 : 41 + 1 = 42 := by omega
theorem ad_42 : 42 + 1 = 43 := by omega
theorem ad_43 : 43 + 1 = 44 := by omega
theorem ad_44 : 44 + 1 = 45 := by omega
theorem ad_45 : 45 + 1 = 46 := by omega
theorem ad_46 : 46 + 1 = 47 := by omega
theorem ad_47 : 47 + 1 = 48 := by omega
theorem ad_48 : 48 + 1 = 49 := by omega
theorem ad_49 : 49 + 1 = 50 := by omega
theorem ad_50 : 50 + 1 = 51 := by omega
theorem ad_51 : 51 + 1 = 52 := by omega
theorem ad_52 : 52 + 1 = 53 := by omega
theorem ad_53 : 53 + 1 = 54 := by omega
theorem ad_54 : 54 + 1 = 55 := by omega
theorem ad_55 : 55 + 1 = 56 := by omega
theorem ad_56 : 56 + 1 = 57 := by omega
theorem ad_57 : 57 + 1 = 58 := by omega
theorem ad_58 : 58 + 1 = 59 := by omega
theorem ad_59 : 59 + 1 = 60 := by omega
theorem ad_60 : 60 + 1 = 61 := by omega
theorem ad_61 : 61 + 1 = 62 := by omega
theorem ad_62 : 62 + 1 = 63 := by omega
theorem ad_63 : 63 + 1 = 64 := by omega
theorem ad_64 : 64 + 1 = 65 := by omega
theorem ad_65 : 65 + 1 = 66 := by omega
theorem ae_15 : 15 + 6 = 21 := by omega
theorem ae_1 : 1 + 49 = 50 := by omega
theorem ae_51 : 51 + 14 = 65 := by omega
/-- the ropes' cells -/
theorem rop_ok : ∀ p, p < 12 → zsh (26 + 2 * p) = (0, 3) ∧ zsh (27 + 2 * p) = (1, 64) ∧ zss (27 + 2 * p) = zss (26 + 2 * p) + 3 ∧ zss (28 + 2 * p) = zss (26 + 2 * p) + 67 ∧ zss (28 + 2 * p) ≤ zss 1 + zmS 74 := by decide +kernel
theorem i_rope {X : zX} {H : zHp} {o n : Nat} {Q : Option Value → zHp → Prop} (hn : n = o + 1) (ho : zsh o = (0, 3)) (ha : zsh n = (1, 64)) (hQ : ∀ H', zsm (fun a => a = o ∨ a = o + 1) H H' → H'.1 o 0 = .int (nI 0) → H'.1 o 1 = .int (nI 0) → H'.1 o 2 = .ref (o + 1) → Q none H') : zCall X 34 n [.ref o] H Q := by
  have f1 : ((zsh n).1 = 1) = True := eq_true (by rw [ha])
  have f2 : (zal n < 100000 ∧ nI 64 = nI (zal n)) = True := eq_true (by unfold zal; rw [ha]; exact ⟨by decide, rfl⟩)
  have e1 : zss (n + 1) = zss n + 64 := by
    show zss n + zsl n = _
    unfold zsl
    rw [ha]
    rfl
  have f3 : zokN 34 n n = True := eq_true ⟨Nat.le_refl _, by rw [e1]; exact Nat.le_refl _⟩
  have f4 : zokE 34 n (n + 1) = True := eq_true ⟨rfl, by rw [e1]; exact Nat.le_refl _⟩
  have f5 : zokO n o 3 = True := eq_true ⟨by omega, ho⟩
  have f6 : zokO (n + 1) o 3 = True := eq_true ⟨by omega, ho⟩
  have hQ := hQ (zsF (zrI (zsF (zsF H o 0 (.int (nI 0))) o 1 (.int (nI 0))) n (fun _ => 0)) o 2 (.ref n)) (zsm_F (zsm_rI (zsm_F (zsm_F zsm_rf (Or.inl rfl)) (Or.inl rfl)) (by omega)) (Or.inl rfl)) (by simp (disch := omega) only [h_FF, h_Fs, h_rIF]) (by simp (disch := omega) only [h_FF, h_Fs, h_rIF]) (by rw [h_Fs, hn])
  refine zgo_call 20 (by decide) (by decide +kernel) True.intro ?_
  simp (disch := first | assumption | omega) only [l_g0, l_gs, l_s0, l_s1, l_ss, l_sn0, l_sns, l_ki, l_kr, l_kl, l_ka, l_en, l_ei, l_er, t_I, t_R, t_W0, t_Wi, t_Wr, t_v0, t_v2, t_v3, i_p1, i_m1, t_k0, t_k1, k_some, k_none, true_and, and_true, ite_true, ite_false, Fin.isValue, l_t0, l_t1, l_ts, l_tn0, l_tns, l_el, t_L, t_Wl, t_v1, t_l0, t_l1, List.tail_cons, List.tail_nil, e_aload_n_0, e_bipush, e_iconst, e_newarray1, e_obj, e_putfield, e_return, b34_0, q34_0, o_0, o_1, o_2, a_2, w_2, o_3, a_3, w_3, o_4, o_5, a_5, w_5, o_6, o_7, a_7, w_7, o_8, o_9, a_9, w_9, o_10, o_11, a_11, w_11, o_12, o_13, a_13, w_13, o_14, o_15, o_16, a_16, w_16, o_17, a_17, w_17, o_18, a_18, w_18, o_19, a_19, w_19, o_20, a_20, w_20, o_21, o_22, a_22, w_22, o_23, o_24, a_24, w_24, o_25, a_25, w_25, o_50, o_51, a_51, w_51, o_52, a_52, w_52, o_53, a_53, w_53, o_54, a_54, w_54, o_55, a_55, w_55, o_56, a_56, w_56, o_57, a_57, w_57, o_58, a_58, w_58, o_59, a_59, w_59, o_60, a_60, w_60, o_61, a_61, w_61, o_62, a_62, w_62, o_63, a_63, w_63, o_64, a_64, w_64, o_rp, o_rs, a_rs, w_rs, r_0_0, r_0_1, r_0_2, r_0_3, r_0_4, r_0_5, r_0_6, r_0_7, r_0_12, r_1_3, r_4_0, r_4_1, r_6_0, r_8_0, r_10_2, r_12_2, r_14_0, r_14_1, r_14_2, r_14_3, r_14_4, r_14_5, r_15_2, r_21_0, r_23_0, r_50_1, r_50_5, r_50_6, r_50_7, r_50_8, r_50_10, r_50_11, r_50_12, r_50_13, r_50_14, r_50_17, r_50_18, r_50_21, r_50_23, r_rp, r_rs, h_Fs, h_FF, h_FI, h_FL, h_Is, h_II, h_IF, h_IL, h_Ls, h_LL, h_LF, h_LI, nI_ltT, nI_ltF, nI_leT, nI_leF, nI_eqT, nI_eqF, ng_ltT, ng_ltF, ng_leT, ng_leF, ng_eqF, ng_eqG, n_ltT, n_leT, n_ltF, n_leF, n_eqF, n_eqG, ng_inj, zix_nI, zinR_nI, nI_add, ↓reduceIte, true_or, or_true, or_self, not_true, not_false, Nat.reduceAdd, l_s0g, l_s1g, l_t0g, List.tail_cons, List.tail_nil, f1, f2, f3, f4, f5, f6, t_v2]
  exact hQ
theorem i_form {X : zX} {H : zHp} {o n : Nat} {Q : Option Value → zHp → Prop} (hn : n = o + 1) (ho : zsh o = (0, 1)) (ha : zsh n = (3, 12800)) (hQ : ∀ H', zsm (fun a => a = o ∨ a = o + 1) H H' → H'.1 o 0 = .ref (o + 1) → H'.1 o 1 = .int (nI 0) → H'.1 o 2 = .int (nI 0) → Q none H') : zCall X 19 n [.ref o] H Q := by
  have f1 : ((zsh n).1 = 3) = True := eq_true (by rw [ha])
  have f2 : (zal n < 100000 ∧ nI 12800 = nI (zal n)) = True := eq_true (by unfold zal; rw [ha]; exact ⟨by decide, rfl⟩)
  have e1 : zss (n + 1) = zss n + 12800 := by
    show zss n + zsl n = _
    unfold zsl
    rw [ha]
    rfl
  have f3 : zokN 19 n n = True := eq_true ⟨Nat.le_refl _, by rw [e1]; exact Nat.le_refl _⟩
  have f4 : zokE 19 n (n + 1) = True := eq_true ⟨rfl, by rw [e1]; exact Nat.le_refl _⟩
  have f5 : zokO n o 1 = True := eq_true ⟨by omega, ho⟩
  have f6 : zokO (n + 1) o 1 = True := eq_true ⟨by omega, ho⟩
  have hQ := hQ (zsF (zsF (zsF (zrI H n (fun _ => 0)) o 0 (.ref n)) o 1 (.int (nI 0))) o 2 (.int (nI 0))) (zsm_F (zsm_F (zsm_F (zsm_rI zsm_rf (by omega)) (Or.inl rfl)) (Or.inl rfl)) (Or.inl rfl)) (by simp (disch := omega) only [h_FF, h_Fs]; rw [hn]) (by simp (disch := omega) only [h_FF, h_Fs]) (by rw [h_Fs])
  refine zgo_call 20 (by decide) (by decide +kernel) True.intro ?_
  simp (disch := first | assumption | omega) only [l_g0, l_gs, l_s0, l_s1, l_ss, l_sn0, l_sns, l_ki, l_kr, l_kl, l_ka, l_en, l_ei, l_er, t_I, t_R, t_W0, t_Wi, t_Wr, t_v0, t_v2, t_v3, i_p1, i_m1, t_k0, t_k1, k_some, k_none, true_and, and_true, ite_true, ite_false, Fin.isValue, l_t0, l_t1, l_ts, l_tn0, l_tns, l_el, t_L, t_Wl, t_v1, t_l0, t_l1, List.tail_cons, List.tail_nil, e_aload_n_0, e_iconst, e_newarray3, e_obj, e_putfield, e_return, e_sipush, b19_0, q19_0, o_0, o_1, o_2, a_2, w_2, o_3, a_3, w_3, o_4, o_5, a_5, w_5, o_6, o_7, a_7, w_7, o_8, o_9, a_9, w_9, o_10, o_11, a_11, w_11, o_12, o_13, a_13, w_13, o_14, o_15, o_16, a_16, w_16, o_17, a_17, w_17, o_18, a_18, w_18, o_19, a_19, w_19, o_20, a_20, w_20, o_21, o_22, a_22, w_22, o_23, o_24, a_24, w_24, o_25, a_25, w_25, o_50, o_51, a_51, w_51, o_52, a_52, w_52, o_53, a_53, w_53, o_54, a_54, w_54, o_55, a_55, w_55, o_56, a_56, w_56, o_57, a_57, w_57, o_58, a_58, w_58, o_59, a_59, w_59, o_60, a_60, w_60, o_61, a_61, w_61, o_62, a_62, w_62, o_63, a_63, w_63, o_64, a_64, w_64, o_rp, o_rs, a_rs, w_rs, r_0_0, r_0_1, r_0_2, r_0_3, r_0_4, r_0_5, r_0_6, r_0_7, r_0_12, r_1_3, r_4_0, r_4_1, r_6_0, r_8_0, r_10_2, r_12_2, r_14_0, r_14_1, r_14_2, r_14_3, r_14_4, r_14_5, r_15_2, r_21_0, r_23_0, r_50_1, r_50_5, r_50_6, r_50_7, r_50_8, r_50_10, r_50_11, r_50_12, r_50_13, r_50_14, r_50_17, r_50_18, r_50_21, r_50_23, r_rp, r_rs, h_Fs, h_FF, h_FI, h_FL, h_Is, h_II, h_IF, h_IL, h_Ls, h_LL, h_LF, h_LI, nI_ltT, nI_ltF, nI_leT, nI_leF, nI_eqT, nI_eqF, ng_ltT, ng_ltF, ng_leT, ng_leF, ng_eqF, ng_eqG, n_ltT, n_leT, n_ltF, n_leF, n_eqF, n_eqG, ng_inj, zix_nI, zinR_nI, nI_add, ↓reduceIte, true_or, or_true, or_self, not_true, not_false, Nat.reduceAdd, l_s0g, l_s1g, l_t0g, List.tail_cons, List.tail_nil, f1, f2, f3, f4, f5, f6]
  exact hQ
theorem i_walk {X : zX} {H : zHp} {Q : Option Value → zHp → Prop} (hQ : ∀ H', zsm (fun a => a = 4 ∨ a = 5) H H' → H'.1 4 0 = .ref 1 → H'.1 4 1 = .ref 5 → Q none H') : zCall X 62 5 [.ref 4, .ref 1] H Q := by
  have hQ := hQ (zsF (zsF (zsF (zsF (zrI H 5 (fun _ => 0)) 4 1 (.ref 5)) 4 2 (.int (nI 0))) 4 3 (.int (nI 1))) 4 0 (.ref 1)) (zsm_F (zsm_F (zsm_F (zsm_F (zsm_rI zsm_rf (by omega)) (Or.inl rfl)) (Or.inl rfl)) (Or.inl rfl)) (Or.inl rfl)) (by simp (disch := omega) only [h_FF, h_Fs]) (by simp (disch := omega) only [h_FF, h_Fs])
  refine zgo_call 20 (by decide) (by decide +kernel) True.intro ?_
  simp (disch := first | assumption | omega) only [l_g0, l_gs, l_s0, l_s1, l_ss, l_sn0, l_sns, l_ki, l_kr, l_kl, l_ka, l_en, l_ei, l_er, t_I, t_R, t_W0, t_Wi, t_Wr, t_v0, t_v2, t_v3, i_p1, i_m1, t_k0, t_k1, k_some, k_none, true_and, and_true, ite_true, ite_false, Fin.isValue, l_t0, l_t1, l_ts, l_tn0, l_tns, l_el, t_L, t_Wl, t_v1, t_l0, t_l1, List.tail_cons, List.tail_nil, e_aload_n_0, e_aload_n_1, e_bipush, e_iconst, e_newarray1, e_obj, e_putfield, e_return, b62_0, q62_0, o_0, o_1, o_2, a_2, w_2, o_3, a_3, w_3, o_4, o_5, a_5, w_5, o_6, o_7, a_7, w_7, o_8, o_9, a_9, w_9, o_10, o_11, a_11, w_11, o_12, o_13, a_13, w_13, o_14, o_15, o_16, a_16, w_16, o_17, a_17, w_17, o_18, a_18, w_18, o_19, a_19, w_19, o_20, a_20, w_20, o_21, o_22, a_22, w_22, o_23, o_24, a_24, w_24, o_25, a_25, w_25, o_50, o_51, a_51, w_51, o_52, a_52, w_52, o_53, a_53, w_53, o_54, a_54, w_54, o_55, a_55, w_55, o_56, a_56, w_56, o_57, a_57, w_57, o_58, a_58, w_58, o_59, a_59, w_59, o_60, a_60, w_60, o_61, a_61, w_61, o_62, a_62, w_62, o_63, a_63, w_63, o_64, a_64, w_64, o_rp, o_rs, a_rs, w_rs, r_0_0, r_0_1, r_0_2, r_0_3, r_0_4, r_0_5, r_0_6, r_0_7, r_0_12, r_1_3, r_4_0, r_4_1, r_6_0, r_8_0, r_10_2, r_12_2, r_14_0, r_14_1, r_14_2, r_14_3, r_14_4, r_14_5, r_15_2, r_21_0, r_23_0, r_50_1, r_50_5, r_50_6, r_50_7, r_50_8, r_50_10, r_50_11, r_50_12, r_50_13, r_50_14, r_50_17, r_50_18, r_50_21, r_50_23, r_rp, r_rs, h_Fs, h_FF, h_FI, h_FL, h_Is, h_II, h_IF, h_IL, h_Ls, h_LL, h_LF, h_LI, nI_ltT, nI_ltF, nI_leT, nI_leF, nI_eqT, nI_eqF, ng_ltT, ng_ltF, ng_leT, ng_leF, ng_eqF, ng_eqG, n_ltT, n_leT, n_ltF, n_leF, n_eqF, n_eqG, ng_inj, zix_nI, zinR_nI, nI_add, ↓reduceIte, true_or, or_true, or_self, not_true, not_false, Nat.reduceAdd, l_s0g, l_s1g, l_t0g, List.tail_cons, List.tail_nil, new_62_5, new_62_5k, end_62, po_0, po_1, po_2, po_3, po_4, po_5, po_6, po_7, po_8, po_9, po_10, po_11, po_12, po_13, po_14, po_15, po_16, po_17, po_18, po_19, po_20, po_21, po_22, po_23, po_24, po_25, po_50, po_51, po_52, po_53, po_54, po_55, po_56, po_57, po_58, po_59, po_60, po_61, po_62, po_63, po_64, zmC_5, zmC_62, zmC_57, zmC_26, zmC_34, zmC_45, zmC_19, zmC_74, zmC_114, zmC_176, ad_0, ad_1, ad_2, ad_3, ad_4, ad_5, ad_6, ad_7, ad_8, ad_9, ad_10, ad_11, ad_12, ad_13, ad_14, ad_15, ad_16, ad_17, ad_18, ad_19, ad_20, ad_21, ad_22, ad_23, ad_24, ad_25, ad_26, ad_27, ad_28, ad_29, ad_30, ad_31, ad_32, ad_33, ad_34, ad_35, ad_36, ad_37, ad_38, ad_39, ad_40, ad_41, ad_42, ad_43, ad_44, ad_45, ad_46, ad_47, ad_48, ad_49, ad_50, ad_51, ad_52, ad_53, ad_54, ad_55, ad_56, ad_57, ad_58, ad_59, ad_60, ad_61, ad_62, ad_63, ad_64, ad_65, ae_15, ae_1, ae_51, Nat.reduceLT, Nat.reduceLeDiff, eq_self, t_v2]
  exact hQ
theorem i_turner {X : zX} {H : zHp} {Q : Option Value → zHp → Prop} (hQ : ∀ H', zsm (fun a => a = 6 ∨ a = 7) H H' → H'.1 6 0 = .ref 7 → Q none H') : zCall X 57 7 [.ref 6] H Q := by
  have hQ := hQ (zsF (zrL H 7 (fun _ => 0)) 6 0 (.ref 7)) (zsm_F (zsm_rL zsm_rf (by omega)) (Or.inl rfl)) (h_Fs _ _ _ _)
  refine zgo_call 20 (by decide) (by decide +kernel) True.intro ?_
  simp (disch := first | assumption | omega) only [l_g0, l_gs, l_s0, l_s1, l_ss, l_sn0, l_sns, l_ki, l_kr, l_kl, l_ka, l_en, l_ei, l_er, t_I, t_R, t_W0, t_Wi, t_Wr, t_v0, t_v2, t_v3, i_p1, i_m1, t_k0, t_k1, k_some, k_none, true_and, and_true, ite_true, ite_false, Fin.isValue, l_t0, l_t1, l_ts, l_tn0, l_tns, l_el, t_L, t_Wl, t_v1, t_l0, t_l1, List.tail_cons, List.tail_nil, e_aload_n_0, e_bipush, e_newarray2, e_obj, e_putfield, e_return, b57_0, q57_0, o_0, o_1, o_2, a_2, w_2, o_3, a_3, w_3, o_4, o_5, a_5, w_5, o_6, o_7, a_7, w_7, o_8, o_9, a_9, w_9, o_10, o_11, a_11, w_11, o_12, o_13, a_13, w_13, o_14, o_15, o_16, a_16, w_16, o_17, a_17, w_17, o_18, a_18, w_18, o_19, a_19, w_19, o_20, a_20, w_20, o_21, o_22, a_22, w_22, o_23, o_24, a_24, w_24, o_25, a_25, w_25, o_50, o_51, a_51, w_51, o_52, a_52, w_52, o_53, a_53, w_53, o_54, a_54, w_54, o_55, a_55, w_55, o_56, a_56, w_56, o_57, a_57, w_57, o_58, a_58, w_58, o_59, a_59, w_59, o_60, a_60, w_60, o_61, a_61, w_61, o_62, a_62, w_62, o_63, a_63, w_63, o_64, a_64, w_64, o_rp, o_rs, a_rs, w_rs, r_0_0, r_0_1, r_0_2, r_0_3, r_0_4, r_0_5, r_0_6, r_0_7, r_0_12, r_1_3, r_4_0, r_4_1, r_6_0, r_8_0, r_10_2, r_12_2, r_14_0, r_14_1, r_14_2, r_14_3, r_14_4, r_14_5, r_15_2, r_21_0, r_23_0, r_50_1, r_50_5, r_50_6, r_50_7, r_50_8, r_50_10, r_50_11, r_50_12, r_50_13, r_50_14, r_50_17, r_50_18, r_50_21, r_50_23, r_rp, r_rs, h_Fs, h_FF, h_FI, h_FL, h_Is, h_II, h_IF, h_IL, h_Ls, h_LL, h_LF, h_LI, nI_ltT, nI_ltF, nI_leT, nI_leF, nI_eqT, nI_eqF, ng_ltT, ng_ltF, ng_leT, ng_leF, ng_eqF, ng_eqG, n_ltT, n_leT, n_ltF, n_leF, n_eqF, n_eqG, ng_inj, zix_nI, zinR_nI, nI_add, ↓reduceIte, true_or, or_true, or_self, not_true, not_false, Nat.reduceAdd, l_s0g, l_s1g, l_t0g, List.tail_cons, List.tail_nil, new_57_7, new_57_7k, end_57, po_0, po_1, po_2, po_3, po_4, po_5, po_6, po_7, po_8, po_9, po_10, po_11, po_12, po_13, po_14, po_15, po_16, po_17, po_18, po_19, po_20, po_21, po_22, po_23, po_24, po_25, po_50, po_51, po_52, po_53, po_54, po_55, po_56, po_57, po_58, po_59, po_60, po_61, po_62, po_63, po_64, zmC_5, zmC_62, zmC_57, zmC_26, zmC_34, zmC_45, zmC_19, zmC_74, zmC_114, zmC_176, ad_0, ad_1, ad_2, ad_3, ad_4, ad_5, ad_6, ad_7, ad_8, ad_9, ad_10, ad_11, ad_12, ad_13, ad_14, ad_15, ad_16, ad_17, ad_18, ad_19, ad_20, ad_21, ad_22, ad_23, ad_24, ad_25, ad_26, ad_27, ad_28, ad_29, ad_30, ad_31, ad_32, ad_33, ad_34, ad_35, ad_36, ad_37, ad_38, ad_39, ad_40, ad_41, ad_42, ad_43, ad_44, ad_45, ad_46, ad_47, ad_48, ad_49, ad_50, ad_51, ad_52, ad_53, ad_54, ad_55, ad_56, ad_57, ad_58, ad_59, ad_60, ad_61, ad_62, ad_63, ad_64, ad_65, ae_15, ae_1, ae_51, Nat.reduceLT, Nat.reduceLeDiff, eq_self]
  exact hQ
theorem i_namer {X : zX} {H : zHp} {Q : Option Value → zHp → Prop} (hQ : ∀ H', zsm (fun a => a = 8 ∨ a = 9) H H' → H'.1 8 0 = .ref 9 → Q none H') : zCall X 26 9 [.ref 8] H Q := by
  have hQ := hQ (zsF (zrI H 9 (fun _ => 0)) 8 0 (.ref 9)) (zsm_F (zsm_rI zsm_rf (by omega)) (Or.inl rfl)) (h_Fs _ _ _ _)
  refine zgo_call 20 (by decide) (by decide +kernel) True.intro ?_
  simp (disch := first | assumption | omega) only [l_g0, l_gs, l_s0, l_s1, l_ss, l_sn0, l_sns, l_ki, l_kr, l_kl, l_ka, l_en, l_ei, l_er, t_I, t_R, t_W0, t_Wi, t_Wr, t_v0, t_v2, t_v3, i_p1, i_m1, t_k0, t_k1, k_some, k_none, true_and, and_true, ite_true, ite_false, Fin.isValue, l_t0, l_t1, l_ts, l_tn0, l_tns, l_el, t_L, t_Wl, t_v1, t_l0, t_l1, List.tail_cons, List.tail_nil, e_aload_n_0, e_bipush, e_newarray1, e_obj, e_putfield, e_return, b26_0, q26_0, o_0, o_1, o_2, a_2, w_2, o_3, a_3, w_3, o_4, o_5, a_5, w_5, o_6, o_7, a_7, w_7, o_8, o_9, a_9, w_9, o_10, o_11, a_11, w_11, o_12, o_13, a_13, w_13, o_14, o_15, o_16, a_16, w_16, o_17, a_17, w_17, o_18, a_18, w_18, o_19, a_19, w_19, o_20, a_20, w_20, o_21, o_22, a_22, w_22, o_23, o_24, a_24, w_24, o_25, a_25, w_25, o_50, o_51, a_51, w_51, o_52, a_52, w_52, o_53, a_53, w_53, o_54, a_54, w_54, o_55, a_55, w_55, o_56, a_56, w_56, o_57, a_57, w_57, o_58, a_58, w_58, o_59, a_59, w_59, o_60, a_60, w_60, o_61, a_61, w_61, o_62, a_62, w_62, o_63, a_63, w_63, o_64, a_64, w_64, o_rp, o_rs, a_rs, w_rs, r_0_0, r_0_1, r_0_2, r_0_3, r_0_4, r_0_5, r_0_6, r_0_7, r_0_12, r_1_3, r_4_0, r_4_1, r_6_0, r_8_0, r_10_2, r_12_2, r_14_0, r_14_1, r_14_2, r_14_3, r_14_4, r_14_5, r_15_2, r_21_0, r_23_0, r_50_1, r_50_5, r_50_6, r_50_7, r_50_8, r_50_10, r_50_11, r_50_12, r_50_13, r_50_14, r_50_17, r_50_18, r_50_21, r_50_23, r_rp, r_rs, h_Fs, h_FF, h_FI, h_FL, h_Is, h_II, h_IF, h_IL, h_Ls, h_LL, h_LF, h_LI, nI_ltT, nI_ltF, nI_leT, nI_leF, nI_eqT, nI_eqF, ng_ltT, ng_ltF, ng_leT, ng_leF, ng_eqF, ng_eqG, n_ltT, n_leT, n_ltF, n_leF, n_eqF, n_eqG, ng_inj, zix_nI, zinR_nI, nI_add, ↓reduceIte, true_or, or_true, or_self, not_true, not_false, Nat.reduceAdd, l_s0g, l_s1g, l_t0g, List.tail_cons, List.tail_nil, new_26_9, new_26_9k, end_26, po_0, po_1, po_2, po_3, po_4, po_5, po_6, po_7, po_8, po_9, po_10, po_11, po_12, po_13, po_14, po_15, po_16, po_17, po_18, po_19, po_20, po_21, po_22, po_23, po_24, po_25, po_50, po_51, po_52, po_53, po_54, po_55, po_56, po_57, po_58, po_59, po_60, po_61, po_62, po_63, po_64, zmC_5, zmC_62, zmC_57, zmC_26, zmC_34, zmC_45, zmC_19, zmC_74, zmC_114, zmC_176, ad_0, ad_1, ad_2, ad_3, ad_4, ad_5, ad_6, ad_7, ad_8, ad_9, ad_10, ad_11, ad_12, ad_13, ad_14, ad_15, ad_16, ad_17, ad_18, ad_19, ad_20, ad_21, ad_22, ad_23, ad_24, ad_25, ad_26, ad_27, ad_28, ad_29, ad_30, ad_31, ad_32, ad_33, ad_34, ad_35, ad_36, ad_37, ad_38, ad_39, ad_40, ad_41, ad_42, ad_43, ad_44, ad_45, ad_46, ad_47, ad_48, ad_49, ad_50, ad_51, ad_52, ad_53, ad_54, ad_55, ad_56, ad_57, ad_58, ad_59, ad_60, ad_61, ad_62, ad_63, ad_64, ad_65, ae_15, ae_1, ae_51, Nat.reduceLT, Nat.reduceLeDiff, eq_self]
  exact hQ
theorem i_seeker {X : zX} {H : zHp} {Q : Option Value → zHp → Prop} (hQ : ∀ H', zsm (fun a => 14 ≤ a ∧ a ≤ 20) H H' → (H'.1 14 0 = .ref 1 ∧ H'.1 14 1 = .ref 15 ∧ H'.1 14 2 = .ref 17 ∧ H'.1 14 3 = .ref 18 ∧ H'.1 14 4 = .ref 19 ∧ H'.1 14 5 = .ref 20) → H'.1 15 2 = .ref 16 → Q none H') : zCall X 45 15 [.ref 14, .ref 1] H Q := by
  refine zgo_call 20 (by decide) (by decide +kernel) True.intro ?_
  simp (disch := first | assumption | omega) only [l_g0, l_gs, l_s0, l_s1, l_ss, l_sn0, l_sns, l_ki, l_kr, l_kl, l_ka, l_en, l_ei, l_er, t_I, t_R, t_W0, t_Wi, t_Wr, t_v0, t_v2, t_v3, i_p1, i_m1, t_k0, t_k1, k_some, k_none, true_and, and_true, ite_true, ite_false, Fin.isValue, l_t0, l_t1, l_ts, l_tn0, l_tns, l_el, t_L, t_Wl, t_v1, t_l0, t_l1, List.tail_cons, List.tail_nil, e_aload_n_0, e_aload_n_1, e_bipush, e_dupi, e_dupr, e_iconst, e_invi1_2, e_new, e_newarray1, e_newarray2, e_obj, e_putfield, e_return, b45_0, q45_0, o_0, o_1, o_2, a_2, w_2, o_3, a_3, w_3, o_4, o_5, a_5, w_5, o_6, o_7, a_7, w_7, o_8, o_9, a_9, w_9, o_10, o_11, a_11, w_11, o_12, o_13, a_13, w_13, o_14, o_15, o_16, a_16, w_16, o_17, a_17, w_17, o_18, a_18, w_18, o_19, a_19, w_19, o_20, a_20, w_20, o_21, o_22, a_22, w_22, o_23, o_24, a_24, w_24, o_25, a_25, w_25, o_50, o_51, a_51, w_51, o_52, a_52, w_52, o_53, a_53, w_53, o_54, a_54, w_54, o_55, a_55, w_55, o_56, a_56, w_56, o_57, a_57, w_57, o_58, a_58, w_58, o_59, a_59, w_59, o_60, a_60, w_60, o_61, a_61, w_61, o_62, a_62, w_62, o_63, a_63, w_63, o_64, a_64, w_64, o_rp, o_rs, a_rs, w_rs, r_0_0, r_0_1, r_0_2, r_0_3, r_0_4, r_0_5, r_0_6, r_0_7, r_0_12, r_1_3, r_4_0, r_4_1, r_6_0, r_8_0, r_10_2, r_12_2, r_14_0, r_14_1, r_14_2, r_14_3, r_14_4, r_14_5, r_15_2, r_21_0, r_23_0, r_50_1, r_50_5, r_50_6, r_50_7, r_50_8, r_50_10, r_50_11, r_50_12, r_50_13, r_50_14, r_50_17, r_50_18, r_50_21, r_50_23, r_rp, r_rs, h_Fs, h_FF, h_FI, h_FL, h_Is, h_II, h_IF, h_IL, h_Ls, h_LL, h_LF, h_LI, nI_ltT, nI_ltF, nI_leT, nI_leF, nI_eqT, nI_eqF, ng_ltT, ng_ltF, ng_leT, ng_leF, ng_eqF, ng_eqG, n_ltT, n_leT, n_ltF, n_leF, n_eqF, n_eqG, ng_inj, zix_nI, zinR_nI, nI_add, ↓reduceIte, true_or, or_true, or_self, not_true, not_false, Nat.reduceAdd, l_s0g, l_s1g, l_t0g, List.tail_cons, List.tail_nil, new_45_15, new_45_15k, inv_45_16e, inv_45_16, new_45_17, new_45_17k, new_45_18, new_45_18k, new_45_19, new_45_19k, new_45_20, new_45_20k, end_45, po_0, po_1, po_2, po_3, po_4, po_5, po_6, po_7, po_8, po_9, po_10, po_11, po_12, po_13, po_14, po_15, po_16, po_17, po_18, po_19, po_20, po_21, po_22, po_23, po_24, po_25, po_50, po_51, po_52, po_53, po_54, po_55, po_56, po_57, po_58, po_59, po_60, po_61, po_62, po_63, po_64, zmC_5, zmC_62, zmC_57, zmC_26, zmC_34, zmC_45, zmC_19, zmC_74, zmC_114, zmC_176, ad_0, ad_1, ad_2, ad_3, ad_4, ad_5, ad_6, ad_7, ad_8, ad_9, ad_10, ad_11, ad_12, ad_13, ad_14, ad_15, ad_16, ad_17, ad_18, ad_19, ad_20, ad_21, ad_22, ad_23, ad_24, ad_25, ad_26, ad_27, ad_28, ad_29, ad_30, ad_31, ad_32, ad_33, ad_34, ad_35, ad_36, ad_37, ad_38, ad_39, ad_40, ad_41, ad_42, ad_43, ad_44, ad_45, ad_46, ad_47, ad_48, ad_49, ad_50, ad_51, ad_52, ad_53, ad_54, ad_55, ad_56, ad_57, ad_58, ad_59, ad_60, ad_61, ad_62, ad_63, ad_64, ad_65, ae_15, ae_1, ae_51, Nat.reduceLT, Nat.reduceLeDiff, eq_self]
  refine i_rope (o := 15) rfl rfl rfl (fun H1 k1 k2 k3 k4 => ?_)
  simp (disch := first | assumption | omega) only [l_g0, l_gs, l_s0, l_s1, l_ss, l_sn0, l_sns, l_ki, l_kr, l_kl, l_ka, l_en, l_ei, l_er, t_I, t_R, t_W0, t_Wi, t_Wr, t_v0, t_v2, t_v3, i_p1, i_m1, t_k0, t_k1, k_some, k_none, true_and, and_true, ite_true, ite_false, Fin.isValue, l_t0, l_t1, l_ts, l_tn0, l_tns, l_el, t_L, t_Wl, t_v1, t_l0, t_l1, List.tail_cons, List.tail_nil, e_aload_n_0, e_aload_n_1, e_bipush, e_dupi, e_dupr, e_iconst, e_invi1_2, e_new, e_newarray1, e_newarray2, e_obj, e_putfield, e_return, b45_0, q45_0, o_0, o_1, o_2, a_2, w_2, o_3, a_3, w_3, o_4, o_5, a_5, w_5, o_6, o_7, a_7, w_7, o_8, o_9, a_9, w_9, o_10, o_11, a_11, w_11, o_12, o_13, a_13, w_13, o_14, o_15, o_16, a_16, w_16, o_17, a_17, w_17, o_18, a_18, w_18, o_19, a_19, w_19, o_20, a_20, w_20, o_21, o_22, a_22, w_22, o_23, o_24, a_24, w_24, o_25, a_25, w_25, o_50, o_51, a_51, w_51, o_52, a_52, w_52, o_53, a_53, w_53, o_54, a_54, w_54, o_55, a_55, w_55, o_56, a_56, w_56, o_57, a_57, w_57, o_58, a_58, w_58, o_59, a_59, w_59, o_60, a_60, w_60, o_61, a_61, w_61, o_62, a_62, w_62, o_63, a_63, w_63, o_64, a_64, w_64, o_rp, o_rs, a_rs, w_rs, r_0_0, r_0_1, r_0_2, r_0_3, r_0_4, r_0_5, r_0_6, r_0_7, r_0_12, r_1_3, r_4_0, r_4_1, r_6_0, r_8_0, r_10_2, r_12_2, r_14_0, r_14_1, r_14_2, r_14_3, r_14_4, r_14_5, r_15_2, r_21_0, r_23_0, r_50_1, r_50_5, r_50_6, r_50_7, r_50_8, r_50_10, r_50_11, r_50_12, r_50_13, r_50_14, r_50_17, r_50_18, r_50_21, r_50_23, r_rp, r_rs, h_Fs, h_FF, h_FI, h_FL, h_Is, h_II, h_IF, h_IL, h_Ls, h_LL, h_LF, h_LI, nI_ltT, nI_ltF, nI_leT, nI_leF, nI_eqT, nI_eqF, ng_ltT, ng_ltF, ng_leT, ng_leF, ng_eqF, ng_eqG, n_ltT, n_leT, n_ltF, n_leF, n_eqF, n_eqG, ng_inj, zix_nI, zinR_nI, nI_add, ↓reduceIte, true_or, or_true, or_self, not_true, not_false, Nat.reduceAdd, l_s0g, l_s1g, l_t0g, List.tail_cons, List.tail_nil, new_45_15, new_45_15k, inv_45_16e, inv_45_16, new_45_17, new_45_17k, new_45_18, new_45_18k, new_45_19, new_45_19k, new_45_20, new_45_20k, end_45, po_0, po_1, po_2, po_3, po_4, po_5, po_6, po_7, po_8, po_9, po_10, po_11, po_12, po_13, po_14, po_15, po_16, po_17, po_18, po_19, po_20, po_21, po_22, po_23, po_24, po_25, po_50, po_51, po_52, po_53, po_54, po_55, po_56, po_57, po_58, po_59, po_60, po_61, po_62, po_63, po_64, zmC_5, zmC_62, zmC_57, zmC_26, zmC_34, zmC_45, zmC_19, zmC_74, zmC_114, zmC_176, ad_0, ad_1, ad_2, ad_3, ad_4, ad_5, ad_6, ad_7, ad_8, ad_9, ad_10, ad_11, ad_12, ad_13, ad_14, ad_15, ad_16, ad_17, ad_18, ad_19, ad_20, ad_21, ad_22, ad_23, ad_24, ad_25, ad_26, ad_27, ad_28, ad_29, ad_30, ad_31, ad_32, ad_33, ad_34, ad_35, ad_36, ad_37, ad_38, ad_39, ad_40, ad_41, ad_42, ad_43, ad_44, ad_45, ad_46, ad_47, ad_48, ad_49, ad_50, ad_51, ad_52, ad_53, ad_54, ad_55, ad_56, ad_57, ad_58, ad_59, ad_60, ad_61, ad_62, ad_63, ad_64, ad_65, ae_15, ae_1, ae_51, Nat.reduceLT, Nat.reduceLeDiff, eq_self, t_v2]
  refine hQ _ ?_ ⟨?_, ?_, ?_, ?_, ?_, ?_⟩ ?_
  · refine zsm_F (zsm_F (zsm_F (zsm_F (zsm_F (zsm_rL (zsm_F (zsm_rL (zsm_F (zsm_rI (zsm_F (zsm_rI (zsm_F (zsm_tr (zsm_rF zsm_rf ?_) (zsm_wk k1 (fun a h => ?_))) ?_) ?_) ?_) ?_) ?_) ?_) ?_) ?_) ?_) ?_) ?_) ?_) ?_ <;> omega
  · simp (disch := omega) only [h_FF, h_Fs, h_rFs, h_rFn, h_rFI, h_rFL, h_rIs, h_rIn, h_rIF, h_rIL, h_rLs, h_rLn, h_rLF, h_rLI]
  · simp (disch := omega) only [h_FF, h_Fs, h_rFs, h_rFn, h_rFI, h_rFL, h_rIs, h_rIn, h_rIF, h_rIL, h_rLs, h_rLn, h_rLF, h_rLI]
  · simp (disch := omega) only [h_FF, h_Fs, h_rFs, h_rFn, h_rFI, h_rFL, h_rIs, h_rIn, h_rIF, h_rIL, h_rLs, h_rLn, h_rLF, h_rLI]
  · simp (disch := omega) only [h_FF, h_Fs, h_rFs, h_rFn, h_rFI, h_rFL, h_rIs, h_rIn, h_rIF, h_rIL, h_rLs, h_rLn, h_rLF, h_rLI]
  · simp (disch := omega) only [h_FF, h_Fs, h_rFs, h_rFn, h_rFI, h_rFL, h_rIs, h_rIn, h_rIF, h_rIL, h_rLs, h_rLn, h_rLF, h_rLI]
  · simp (disch := omega) only [h_FF, h_Fs, h_rFs, h_rFn, h_rFI, h_rFL, h_rIs, h_rIn, h_rIF, h_rIL, h_rLs, h_rLn, h_rLF, h_rLI]
  · simp (disch := omega) only [h_FF, h_Fs, h_rFs, h_rFn, h_rFI, h_rFL, h_rIs, h_rIn, h_rIF, h_rIL, h_rLs, h_rLn, h_rLF, h_rLI]
    exact k4
/-- sets, at any time -/
theorem x_without9 {X : zX} {H : zHp} {w n : Nat} {Q : Option Value → zHp → Prop} (hw : w < 6) (hQ : Q (some (.long (zwof w))) H) : zCall X 0 n [.int (nI w)] H Q := by
  refine zgo_call 20 (by decide) (by decide +kernel) True.intro ?_
  simp (disch := first | assumption | omega) only [l_g0, l_gs, l_s0, l_s1, l_ss, l_sn0, l_sns, l_ki, l_kr, l_kl, l_ka, l_en, l_ei, l_er, t_I, t_R, t_W0, t_Wi, t_Wr, t_v0, t_v2, t_v3, i_p1, i_m1, t_k0, t_k1, k_some, k_none, true_and, and_true, ite_true, ite_false, Fin.isValue, l_t0, l_t1, l_ts, l_tn0, l_tns, l_el, t_L, t_Wl, t_v1, t_l0, t_l1, List.tail_cons, List.tail_nil, e_arraylength2, e_getstatic, e_goto0, e_icmp_ge0, e_if_lt0, e_iload_n_0, e_laload2, e_lconst, e_lreturn, e_nop0, b0_0, b0_1, b0_2, q0_0, q0_1, q0_2, zE0, o_0, o_1, o_2, a_2, w_2, o_3, a_3, w_3, o_4, o_5, a_5, w_5, o_6, o_7, a_7, w_7, o_8, o_9, a_9, w_9, o_10, o_11, a_11, w_11, o_12, o_13, a_13, w_13, o_14, o_15, o_16, a_16, w_16, o_17, a_17, w_17, o_18, a_18, w_18, o_19, a_19, w_19, o_20, a_20, w_20, o_21, o_22, a_22, w_22, o_23, o_24, a_24, w_24, o_25, a_25, w_25, o_50, o_51, a_51, w_51, o_52, a_52, w_52, o_53, a_53, w_53, o_54, a_54, w_54, o_55, a_55, w_55, o_56, a_56, w_56, o_57, a_57, w_57, o_58, a_58, w_58, o_59, a_59, w_59, o_60, a_60, w_60, o_61, a_61, w_61, o_62, a_62, w_62, o_63, a_63, w_63, o_64, a_64, w_64, o_rp, o_rs, a_rs, w_rs, r_0_0, r_0_1, r_0_2, r_0_3, r_0_4, r_0_5, r_0_6, r_0_7, r_0_12, r_1_3, r_4_0, r_4_1, r_6_0, r_8_0, r_10_2, r_12_2, r_14_0, r_14_1, r_14_2, r_14_3, r_14_4, r_14_5, r_15_2, r_21_0, r_23_0, r_50_1, r_50_5, r_50_6, r_50_7, r_50_8, r_50_10, r_50_11, r_50_12, r_50_13, r_50_14, r_50_17, r_50_18, r_50_21, r_50_23, r_rp, r_rs, h_Fs, h_FF, h_FI, h_FL, h_Is, h_II, h_IF, h_IL, h_Ls, h_LL, h_LF, h_LI, nI_ltT, nI_ltF, nI_leT, nI_leF, nI_eqT, nI_eqF, ng_ltT, ng_ltF, ng_leT, ng_leF, ng_eqF, ng_eqG, n_ltT, n_leT, n_ltF, n_leF, n_eqF, n_eqG, ng_inj, zix_nI, zinR_nI, nI_add, ↓reduceIte, true_or, or_true, or_self, not_true, not_false, Nat.reduceAdd, l_s0g, l_s1g, l_t0g, List.tail_cons, List.tail_nil]
  exact hQ
theorem x_stepped9 {X : zX} {H : zHp} {x : Int64} {w n : Nat} {Q : Option Value → zHp → Prop} (hw : w < 6) (hQ : ∀ r : Int64, (∀ d, d < 64 → zbit r d = zbit x (d ^^^ 2 ^ w)) → Q (some (.long r)) H) : zCall X 2 n [.long x, .int (nI w)] H Q := by
  have hQ := hQ _ (fun d hd => zstep_bit hw hd)
  refine zgo_call 20 (by decide) (by decide +kernel) True.intro ?_
  simp (disch := first | assumption | omega) only [l_g0, l_gs, l_s0, l_s1, l_ss, l_sn0, l_sns, l_ki, l_kr, l_kl, l_ka, l_en, l_ei, l_er, t_I, t_R, t_W0, t_Wi, t_Wr, t_v0, t_v2, t_v3, i_p1, i_m1, t_k0, t_k1, k_some, k_none, true_and, and_true, ite_true, ite_false, Fin.isValue, l_t0, l_t1, l_ts, l_tn0, l_tns, l_el, t_L, t_Wl, t_v1, t_l0, t_l1, List.tail_cons, List.tail_nil, e_iconst, e_iload, e_iload_n_2, e_invs1_0, e_ishl, e_istore, e_land, e_lload_n_0, e_lload_n_3, e_lor, e_lreturn, e_lshl, e_lstore_n_3, e_lushr, b2_0, q2_0, zE2, o_0, o_1, o_2, a_2, w_2, o_3, a_3, w_3, o_4, o_5, a_5, w_5, o_6, o_7, a_7, w_7, o_8, o_9, a_9, w_9, o_10, o_11, a_11, w_11, o_12, o_13, a_13, w_13, o_14, o_15, o_16, a_16, w_16, o_17, a_17, w_17, o_18, a_18, w_18, o_19, a_19, w_19, o_20, a_20, w_20, o_21, o_22, a_22, w_22, o_23, o_24, a_24, w_24, o_25, a_25, w_25, o_50, o_51, a_51, w_51, o_52, a_52, w_52, o_53, a_53, w_53, o_54, a_54, w_54, o_55, a_55, w_55, o_56, a_56, w_56, o_57, a_57, w_57, o_58, a_58, w_58, o_59, a_59, w_59, o_60, a_60, w_60, o_61, a_61, w_61, o_62, a_62, w_62, o_63, a_63, w_63, o_64, a_64, w_64, o_rp, o_rs, a_rs, w_rs, r_0_0, r_0_1, r_0_2, r_0_3, r_0_4, r_0_5, r_0_6, r_0_7, r_0_12, r_1_3, r_4_0, r_4_1, r_6_0, r_8_0, r_10_2, r_12_2, r_14_0, r_14_1, r_14_2, r_14_3, r_14_4, r_14_5, r_15_2, r_21_0, r_23_0, r_50_1, r_50_5, r_50_6, r_50_7, r_50_8, r_50_10, r_50_11, r_50_12, r_50_13, r_50_14, r_50_17, r_50_18, r_50_21, r_50_23, r_rp, r_rs, h_Fs, h_FF, h_FI, h_FL, h_Is, h_II, h_IF, h_IL, h_Ls, h_LL, h_LF, h_LI, nI_ltT, nI_ltF, nI_leT, nI_leF, nI_eqT, nI_eqF, ng_ltT, ng_ltF, ng_leT, ng_leF, ng_eqF, ng_eqG, n_ltT, n_leT, n_ltF, n_leF, n_eqF, n_eqG, ng_inj, zix_nI, zinR_nI, nI_add, ↓reduceIte, true_or, or_true, or_self, not_true, not_false, Nat.reduceAdd, l_s0g, l_s1g, l_t0g, List.tail_cons, List.tail_nil]
  refine x_without9 hw ?_
  simp (disch := first | assumption | omega) only [l_g0, l_gs, l_s0, l_s1, l_ss, l_sn0, l_sns, l_ki, l_kr, l_kl, l_ka, l_en, l_ei, l_er, t_I, t_R, t_W0, t_Wi, t_Wr, t_v0, t_v2, t_v3, i_p1, i_m1, t_k0, t_k1, k_some, k_none, true_and, and_true, ite_true, ite_false, Fin.isValue, l_t0, l_t1, l_ts, l_tn0, l_tns, l_el, t_L, t_Wl, t_v1, t_l0, t_l1, List.tail_cons, List.tail_nil, e_iconst, e_iload, e_iload_n_2, e_invs1_0, e_ishl, e_istore, e_land, e_lload_n_0, e_lload_n_3, e_lor, e_lreturn, e_lshl, e_lstore_n_3, e_lushr, b2_0, q2_0, zE2, o_0, o_1, o_2, a_2, w_2, o_3, a_3, w_3, o_4, o_5, a_5, w_5, o_6, o_7, a_7, w_7, o_8, o_9, a_9, w_9, o_10, o_11, a_11, w_11, o_12, o_13, a_13, w_13, o_14, o_15, o_16, a_16, w_16, o_17, a_17, w_17, o_18, a_18, w_18, o_19, a_19, w_19, o_20, a_20, w_20, o_21, o_22, a_22, w_22, o_23, o_24, a_24, w_24, o_25, a_25, w_25, o_50, o_51, a_51, w_51, o_52, a_52, w_52, o_53, a_53, w_53, o_54, a_54, w_54, o_55, a_55, w_55, o_56, a_56, w_56, o_57, a_57, w_57, o_58, a_58, w_58, o_59, a_59, w_59, o_60, a_60, w_60, o_61, a_61, w_61, o_62, a_62, w_62, o_63, a_63, w_63, o_64, a_64, w_64, o_rp, o_rs, a_rs, w_rs, r_0_0, r_0_1, r_0_2, r_0_3, r_0_4, r_0_5, r_0_6, r_0_7, r_0_12, r_1_3, r_4_0, r_4_1, r_6_0, r_8_0, r_10_2, r_12_2, r_14_0, r_14_1, r_14_2, r_14_3, r_14_4, r_14_5, r_15_2, r_21_0, r_23_0, r_50_1, r_50_5, r_50_6, r_50_7, r_50_8, r_50_10, r_50_11, r_50_12, r_50_13, r_50_14, r_50_17, r_50_18, r_50_21, r_50_23, r_rp, r_rs, h_Fs, h_FF, h_FI, h_FL, h_Is, h_II, h_IF, h_IL, h_Ls, h_LL, h_LF, h_LI, nI_ltT, nI_ltF, nI_leT, nI_leF, nI_eqT, nI_eqF, ng_ltT, ng_ltF, ng_leT, ng_leF, ng_eqF, ng_eqG, n_ltT, n_leT, n_ltF, n_leF, n_eqF, n_eqG, ng_inj, zix_nI, zinR_nI, nI_add, ↓reduceIte, true_or, or_true, or_self, not_true, not_false, Nat.reduceAdd, l_s0g, l_s1g, l_t0g, List.tail_cons, List.tail_nil, nx_s1]
  exact hQ
theorem x_grown9 {X : zX} {H : zHp} {x : Int64} {n m : Nat} {Q : Option Value → zHp → Prop} (hn : n ≤ 6) (hQ : ∀ r : Int64, (∀ d, d < 64 → zbit r d = zgr (zbit x) n d) → Q (some (.long r)) H) : zCall X 3 m [.long x, .int (nI n)] H Q := by
  refine zgo_call 20 (by decide) (by decide +kernel) True.intro ?_
  simp (disch := first | assumption | omega) only [l_g0, l_gs, l_s0, l_s1, l_ss, l_sn0, l_sns, l_ki, l_kr, l_kl, l_ka, l_en, l_ei, l_er, t_I, t_R, t_W0, t_Wi, t_Wr, t_v0, t_v2, t_v3, i_p1, i_m1, t_k0, t_k1, k_some, k_none, true_and, and_true, ite_true, ite_false, Fin.isValue, l_t0, l_t1, l_ts, l_tn0, l_tns, l_el, t_L, t_Wl, t_v1, t_l0, t_l1, List.tail_cons, List.tail_nil, e_goto1, e_icmp_ge0, e_iconst, e_iinc, e_iload, e_iload_n_2, e_invs2_0, e_istore, e_lload_n_0, e_lload_n_3, e_lor, e_lreturn, e_lstore_n_3, e_nop1, b3_0, b3_1, b3_2, q3_0, q3_1, q3_2, zE3, o_0, o_1, o_2, a_2, w_2, o_3, a_3, w_3, o_4, o_5, a_5, w_5, o_6, o_7, a_7, w_7, o_8, o_9, a_9, w_9, o_10, o_11, a_11, w_11, o_12, o_13, a_13, w_13, o_14, o_15, o_16, a_16, w_16, o_17, a_17, w_17, o_18, a_18, w_18, o_19, a_19, w_19, o_20, a_20, w_20, o_21, o_22, a_22, w_22, o_23, o_24, a_24, w_24, o_25, a_25, w_25, o_50, o_51, a_51, w_51, o_52, a_52, w_52, o_53, a_53, w_53, o_54, a_54, w_54, o_55, a_55, w_55, o_56, a_56, w_56, o_57, a_57, w_57, o_58, a_58, w_58, o_59, a_59, w_59, o_60, a_60, w_60, o_61, a_61, w_61, o_62, a_62, w_62, o_63, a_63, w_63, o_64, a_64, w_64, o_rp, o_rs, a_rs, w_rs, r_0_0, r_0_1, r_0_2, r_0_3, r_0_4, r_0_5, r_0_6, r_0_7, r_0_12, r_1_3, r_4_0, r_4_1, r_6_0, r_8_0, r_10_2, r_12_2, r_14_0, r_14_1, r_14_2, r_14_3, r_14_4, r_14_5, r_15_2, r_21_0, r_23_0, r_50_1, r_50_5, r_50_6, r_50_7, r_50_8, r_50_10, r_50_11, r_50_12, r_50_13, r_50_14, r_50_17, r_50_18, r_50_21, r_50_23, r_rp, r_rs, h_Fs, h_FF, h_FI, h_FL, h_Is, h_II, h_IF, h_IL, h_Ls, h_LL, h_LF, h_LI, nI_ltT, nI_ltF, nI_leT, nI_leF, nI_eqT, nI_eqF, ng_ltT, ng_ltF, ng_leT, ng_leF, ng_eqF, ng_eqG, n_ltT, n_leT, n_ltF, n_leF, n_eqF, n_eqG, ng_inj, zix_nI, zinR_nI, nI_add, ↓reduceIte, true_or, or_true, or_self, not_true, not_false, Nat.reduceAdd, l_s0g, l_s1g, l_t0g, List.tail_cons, List.tail_nil]
  refine zfor (R := fun i H' => H' = H) (fun i H' => ∀ a : Int64, (∀ d, d < 64 → zbit a d = zgr (zbit x) i d) → zAt X 3 m m 1 [.long x, .retAddr 0, .int (nI n), .long a, .retAddr 0, .int (nI i)] [] H' Q) n ?_ ?_ 0 H (Nat.zero_le _) rfl x (fun d hd => ?_)
  · rintro H' rfl a ha
    refine zgo_at 20 ?_
    simp (disch := first | assumption | omega) only [l_g0, l_gs, l_s0, l_s1, l_ss, l_sn0, l_sns, l_ki, l_kr, l_kl, l_ka, l_en, l_ei, l_er, t_I, t_R, t_W0, t_Wi, t_Wr, t_v0, t_v2, t_v3, i_p1, i_m1, t_k0, t_k1, k_some, k_none, true_and, and_true, ite_true, ite_false, Fin.isValue, l_t0, l_t1, l_ts, l_tn0, l_tns, l_el, t_L, t_Wl, t_v1, t_l0, t_l1, List.tail_cons, List.tail_nil, e_goto1, e_icmp_ge0, e_iconst, e_iinc, e_iload, e_iload_n_2, e_invs2_0, e_istore, e_lload_n_0, e_lload_n_3, e_lor, e_lreturn, e_lstore_n_3, e_nop1, b3_0, b3_1, b3_2, q3_0, q3_1, q3_2, zE3, o_0, o_1, o_2, a_2, w_2, o_3, a_3, w_3, o_4, o_5, a_5, w_5, o_6, o_7, a_7, w_7, o_8, o_9, a_9, w_9, o_10, o_11, a_11, w_11, o_12, o_13, a_13, w_13, o_14, o_15, o_16, a_16, w_16, o_17, a_17, w_17, o_18, a_18, w_18, o_19, a_19, w_19, o_20, a_20, w_20, o_21, o_22, a_22, w_22, o_23, o_24, a_24, w_24, o_25, a_25, w_25, o_50, o_51, a_51, w_51, o_52, a_52, w_52, o_53, a_53, w_53, o_54, a_54, w_54, o_55, a_55, w_55, o_56, a_56, w_56, o_57, a_57, w_57, o_58, a_58, w_58, o_59, a_59, w_59, o_60, a_60, w_60, o_61, a_61, w_61, o_62, a_62, w_62, o_63, a_63, w_63, o_64, a_64, w_64, o_rp, o_rs, a_rs, w_rs, r_0_0, r_0_1, r_0_2, r_0_3, r_0_4, r_0_5, r_0_6, r_0_7, r_0_12, r_1_3, r_4_0, r_4_1, r_6_0, r_8_0, r_10_2, r_12_2, r_14_0, r_14_1, r_14_2, r_14_3, r_14_4, r_14_5, r_15_2, r_21_0, r_23_0, r_50_1, r_50_5, r_50_6, r_50_7, r_50_8, r_50_10, r_50_11, r_50_12, r_50_13, r_50_14, r_50_17, r_50_18, r_50_21, r_50_23, r_rp, r_rs, h_Fs, h_FF, h_FI, h_FL, h_Is, h_II, h_IF, h_IL, h_Ls, h_LL, h_LF, h_LI, nI_ltT, nI_ltF, nI_leT, nI_leF, nI_eqT, nI_eqF, ng_ltT, ng_ltF, ng_leT, ng_leF, ng_eqF, ng_eqG, n_ltT, n_leT, n_ltF, n_leF, n_eqF, n_eqG, ng_inj, zix_nI, zinR_nI, nI_add, ↓reduceIte, true_or, or_true, or_self, not_true, not_false, Nat.reduceAdd, l_s0g, l_s1g, l_t0g, List.tail_cons, List.tail_nil]
    exact hQ a ha
  · rintro i H' hi rfl ih a ha
    refine zgo_at 20 ?_
    simp (disch := first | assumption | omega) only [l_g0, l_gs, l_s0, l_s1, l_ss, l_sn0, l_sns, l_ki, l_kr, l_kl, l_ka, l_en, l_ei, l_er, t_I, t_R, t_W0, t_Wi, t_Wr, t_v0, t_v2, t_v3, i_p1, i_m1, t_k0, t_k1, k_some, k_none, true_and, and_true, ite_true, ite_false, Fin.isValue, l_t0, l_t1, l_ts, l_tn0, l_tns, l_el, t_L, t_Wl, t_v1, t_l0, t_l1, List.tail_cons, List.tail_nil, e_goto1, e_icmp_ge0, e_iconst, e_iinc, e_iload, e_iload_n_2, e_invs2_0, e_istore, e_lload_n_0, e_lload_n_3, e_lor, e_lreturn, e_lstore_n_3, e_nop1, b3_0, b3_1, b3_2, q3_0, q3_1, q3_2, zE3, o_0, o_1, o_2, a_2, w_2, o_3, a_3, w_3, o_4, o_5, a_5, w_5, o_6, o_7, a_7, w_7, o_8, o_9, a_9, w_9, o_10, o_11, a_11, w_11, o_12, o_13, a_13, w_13, o_14, o_15, o_16, a_16, w_16, o_17, a_17, w_17, o_18, a_18, w_18, o_19, a_19, w_19, o_20, a_20, w_20, o_21, o_22, a_22, w_22, o_23, o_24, a_24, w_24, o_25, a_25, w_25, o_50, o_51, a_51, w_51, o_52, a_52, w_52, o_53, a_53, w_53, o_54, a_54, w_54, o_55, a_55, w_55, o_56, a_56, w_56, o_57, a_57, w_57, o_58, a_58, w_58, o_59, a_59, w_59, o_60, a_60, w_60, o_61, a_61, w_61, o_62, a_62, w_62, o_63, a_63, w_63, o_64, a_64, w_64, o_rp, o_rs, a_rs, w_rs, r_0_0, r_0_1, r_0_2, r_0_3, r_0_4, r_0_5, r_0_6, r_0_7, r_0_12, r_1_3, r_4_0, r_4_1, r_6_0, r_8_0, r_10_2, r_12_2, r_14_0, r_14_1, r_14_2, r_14_3, r_14_4, r_14_5, r_15_2, r_21_0, r_23_0, r_50_1, r_50_5, r_50_6, r_50_7, r_50_8, r_50_10, r_50_11, r_50_12, r_50_13, r_50_14, r_50_17, r_50_18, r_50_21, r_50_23, r_rp, r_rs, h_Fs, h_FF, h_FI, h_FL, h_Is, h_II, h_IF, h_IL, h_Ls, h_LL, h_LF, h_LI, nI_ltT, nI_ltF, nI_leT, nI_leF, nI_eqT, nI_eqF, ng_ltT, ng_ltF, ng_leT, ng_leF, ng_eqF, ng_eqG, n_ltT, n_leT, n_ltF, n_leF, n_eqF, n_eqG, ng_inj, zix_nI, zinR_nI, nI_add, ↓reduceIte, true_or, or_true, or_self, not_true, not_false, Nat.reduceAdd, l_s0g, l_s1g, l_t0g, List.tail_cons, List.tail_nil]
    refine x_stepped9 (by omega) (fun r hr => ?_)
    simp (disch := first | assumption | omega) only [l_g0, l_gs, l_s0, l_s1, l_ss, l_sn0, l_sns, l_ki, l_kr, l_kl, l_ka, l_en, l_ei, l_er, t_I, t_R, t_W0, t_Wi, t_Wr, t_v0, t_v2, t_v3, i_p1, i_m1, t_k0, t_k1, k_some, k_none, true_and, and_true, ite_true, ite_false, Fin.isValue, l_t0, l_t1, l_ts, l_tn0, l_tns, l_el, t_L, t_Wl, t_v1, t_l0, t_l1, List.tail_cons, List.tail_nil, e_goto1, e_icmp_ge0, e_iconst, e_iinc, e_iload, e_iload_n_2, e_invs2_0, e_istore, e_lload_n_0, e_lload_n_3, e_lor, e_lreturn, e_lstore_n_3, e_nop1, b3_0, b3_1, b3_2, q3_0, q3_1, q3_2, zE3, o_0, o_1, o_2, a_2, w_2, o_3, a_3, w_3, o_4, o_5, a_5, w_5, o_6, o_7, a_7, w_7, o_8, o_9, a_9, w_9, o_10, o_11, a_11, w_11, o_12, o_13, a_13, w_13, o_14, o_15, o_16, a_16, w_16, o_17, a_17, w_17, o_18, a_18, w_18, o_19, a_19, w_19, o_20, a_20, w_20, o_21, o_22, a_22, w_22, o_23, o_24, a_24, w_24, o_25, a_25, w_25, o_50, o_51, a_51, w_51, o_52, a_52, w_52, o_53, a_53, w_53, o_54, a_54, w_54, o_55, a_55, w_55, o_56, a_56, w_56, o_57, a_57, w_57, o_58, a_58, w_58, o_59, a_59, w_59, o_60, a_60, w_60, o_61, a_61, w_61, o_62, a_62, w_62, o_63, a_63, w_63, o_64, a_64, w_64, o_rp, o_rs, a_rs, w_rs, r_0_0, r_0_1, r_0_2, r_0_3, r_0_4, r_0_5, r_0_6, r_0_7, r_0_12, r_1_3, r_4_0, r_4_1, r_6_0, r_8_0, r_10_2, r_12_2, r_14_0, r_14_1, r_14_2, r_14_3, r_14_4, r_14_5, r_15_2, r_21_0, r_23_0, r_50_1, r_50_5, r_50_6, r_50_7, r_50_8, r_50_10, r_50_11, r_50_12, r_50_13, r_50_14, r_50_17, r_50_18, r_50_21, r_50_23, r_rp, r_rs, h_Fs, h_FF, h_FI, h_FL, h_Is, h_II, h_IF, h_IL, h_Ls, h_LL, h_LF, h_LI, nI_ltT, nI_ltF, nI_leT, nI_leF, nI_eqT, nI_eqF, ng_ltT, ng_ltF, ng_leT, ng_leF, ng_eqF, ng_eqG, n_ltT, n_leT, n_ltF, n_leF, n_eqF, n_eqG, ng_inj, zix_nI, zinR_nI, nI_add, ↓reduceIte, true_or, or_true, or_self, not_true, not_false, Nat.reduceAdd, l_s0g, l_s1g, l_t0g, List.tail_cons, List.tail_nil]
    exact ih H' rfl _ (fun d hd => by rw [zbit_or, ha d hd, hr d hd, zgr_s])
  · unfold zgr
    simp [zga]
theorem zball_0 : ∀ x, x < 64 → decide (x = 0) = decide (zpc x ≤ 0) := by decide +kernel
theorem zball_s : ∀ r, r < 3 → ∀ x, x < 64 → (decide (zpc x ≤ r) || !zga (fun w => !decide (zpc (x ^^^ 2 ^ w) ≤ r)) 6) = decide (zpc x ≤ r + 1) := by decide +kernel
theorem zx_eq0 {a b : Nat} : (a ^^^ b = 0) ↔ a = b := by
  constructor
  · intro h
    have := congrArg (· ^^^ b) h
    simp only [zx_self, Nat.zero_xor] at this
    exact this
  · rintro rfl
    exact Nat.xor_self _
theorem i_cube {X : zX} {H : zHp} {Q : Option Value → zHp → Prop} (hQ : ∀ H', zsm (fun a => a = 1 ∨ a = 2) H H' → (H'.1 1 0 = .int (nI 3) ∧ H'.1 1 1 = .int (nI 2) ∧ H'.1 1 2 = .long (lN 0) ∧ H'.1 1 3 = .ref 2) → (∀ r c, r < 3 → c < 64 → ∀ d, d < 64 → zbit (H'.2.2 2 (64 * r + c)) d = zball r c d) → Q none H') : zCall X 5 2 [.ref 1] H Q := by
  refine zgo_call 20 (by decide) (by decide +kernel) True.intro ?_
  simp (disch := first | assumption | omega) only [l_g0, l_gs, l_s0, l_s1, l_ss, l_sn0, l_sns, l_ki, l_kr, l_kl, l_ka, l_en, l_ei, l_er, t_I, t_R, t_W0, t_Wi, t_Wr, t_v0, t_v2, t_v3, i_p1, i_m1, t_k0, t_k1, k_some, k_none, true_and, and_true, ite_true, ite_false, Fin.isValue, l_t0, l_t1, l_ts, l_tn0, l_tns, l_el, t_L, t_Wl, t_v1, t_l0, t_l1, List.tail_cons, List.tail_nil, e_aload_n_0, e_bipush, e_getfield, e_goto1N, e_iadd, e_icmp_ge0N, e_iconst, e_iinc, e_iload, e_iload_n_1, e_imul, e_invs2_0, e_istore, e_istore_n_1, e_lastore, e_lconst, e_lload_n_2, e_lshl, e_lstore_n_2, e_newarray2, e_nop1N, e_obj, e_putfield, e_return, e_sipush, b5_0, b5_1, b5_2, b5_3, b5_4, q5_0, q5_1, q5_2, q5_3, q5_4, o_0, o_1, o_2, a_2, w_2, o_3, a_3, w_3, o_4, o_5, a_5, w_5, o_6, o_7, a_7, w_7, o_8, o_9, a_9, w_9, o_10, o_11, a_11, w_11, o_12, o_13, a_13, w_13, o_14, o_15, o_16, a_16, w_16, o_17, a_17, w_17, o_18, a_18, w_18, o_19, a_19, w_19, o_20, a_20, w_20, o_21, o_22, a_22, w_22, o_23, o_24, a_24, w_24, o_25, a_25, w_25, o_50, o_51, a_51, w_51, o_52, a_52, w_52, o_53, a_53, w_53, o_54, a_54, w_54, o_55, a_55, w_55, o_56, a_56, w_56, o_57, a_57, w_57, o_58, a_58, w_58, o_59, a_59, w_59, o_60, a_60, w_60, o_61, a_61, w_61, o_62, a_62, w_62, o_63, a_63, w_63, o_64, a_64, w_64, o_rp, o_rs, a_rs, w_rs, r_0_0, r_0_1, r_0_2, r_0_3, r_0_4, r_0_5, r_0_6, r_0_7, r_0_12, r_1_3, r_4_0, r_4_1, r_6_0, r_8_0, r_10_2, r_12_2, r_14_0, r_14_1, r_14_2, r_14_3, r_14_4, r_14_5, r_15_2, r_21_0, r_23_0, r_50_1, r_50_5, r_50_6, r_50_7, r_50_8, r_50_10, r_50_11, r_50_12, r_50_13, r_50_14, r_50_17, r_50_18, r_50_21, r_50_23, r_rp, r_rs, h_Fs, h_FF, h_FI, h_FL, h_Is, h_II, h_IF, h_IL, h_Ls, h_LL, h_LF, h_LI, nI_ltT, nI_ltF, nI_leT, nI_leF, nI_eqT, nI_eqF, ng_ltT, ng_ltF, ng_leT, ng_leF, ng_eqF, ng_eqG, n_ltT, n_leT, n_ltF, n_leF, n_eqF, n_eqG, ng_inj, zix_nI, zinR_nI, nI_add, ↓reduceIte, true_or, or_true, or_self, not_true, not_false, Nat.reduceAdd, l_s0g, l_s1g, l_t0g, List.tail_cons, List.tail_nil, new_5_2, new_5_2k, end_5, po_0, po_1, po_2, po_3, po_4, po_5, po_6, po_7, po_8, po_9, po_10, po_11, po_12, po_13, po_14, po_15, po_16, po_17, po_18, po_19, po_20, po_21, po_22, po_23, po_24, po_25, po_50, po_51, po_52, po_53, po_54, po_55, po_56, po_57, po_58, po_59, po_60, po_61, po_62, po_63, po_64, zmC_5, zmC_62, zmC_57, zmC_26, zmC_34, zmC_45, zmC_19, zmC_74, zmC_114, zmC_176, ad_0, ad_1, ad_2, ad_3, ad_4, ad_5, ad_6, ad_7, ad_8, ad_9, ad_10, ad_11, ad_12, ad_13, ad_14, ad_15, ad_16, ad_17, ad_18, ad_19, ad_20, ad_21, ad_22, ad_23, ad_24, ad_25, ad_26, ad_27, ad_28, ad_29, ad_30, ad_31, ad_32, ad_33, ad_34, ad_35, ad_36, ad_37, ad_38, ad_39, ad_40, ad_41, ad_42, ad_43, ad_44, ad_45, ad_46, ad_47, ad_48, ad_49, ad_50, ad_51, ad_52, ad_53, ad_54, ad_55, ad_56, ad_57, ad_58, ad_59, ad_60, ad_61, ad_62, ad_63, ad_64, ad_65, ae_15, ae_1, ae_51, Nat.reduceLT, Nat.reduceLeDiff, eq_self]
  refine zfor (R := fun c H' => zsm (fun a => a = 1 ∨ a = 2) H H' ∧ (H'.1 1 0 = .int (nI 3) ∧ H'.1 1 1 = .int (nI 2) ∧ H'.1 1 2 = .long (lN 0) ∧ H'.1 1 3 = .ref 2) ∧ ∀ r c', r < 3 → c' < c → ∀ d, d < 64 → zbit (H'.2.2 2 (64 * r + c')) d = zball r c' d) (fun c H' => ∀ t : List Value, zAt X 5 2 3 1 (.ref 1 :: .int (nI c) :: t) [] H' Q) 64 ?_ ?_ 0 _ (Nat.zero_le _) ⟨zsm_F (zsm_rL (zsm_F (zsm_F (zsm_F zsm_rf (Or.inl rfl)) (Or.inl rfl)) (Or.inl rfl)) (Or.inr rfl)) (Or.inl rfl), ⟨?_, ?_, ?_, ?_⟩, fun r c' hr hc => absurd hc (by omega)⟩ _
  · rintro H' ⟨k1, k2, k3⟩ t
    have hQ := hQ H' k1 k2 k3
    refine zgo_at 20 ?_
    simp (disch := first | assumption | omega) only [l_g0, l_gs, l_s0, l_s1, l_ss, l_sn0, l_sns, l_ki, l_kr, l_kl, l_ka, l_en, l_ei, l_er, t_I, t_R, t_W0, t_Wi, t_Wr, t_v0, t_v2, t_v3, i_p1, i_m1, t_k0, t_k1, k_some, k_none, true_and, and_true, ite_true, ite_false, Fin.isValue, l_t0, l_t1, l_ts, l_tn0, l_tns, l_el, t_L, t_Wl, t_v1, t_l0, t_l1, List.tail_cons, List.tail_nil, e_aload_n_0, e_bipush, e_getfield, e_goto1N, e_iadd, e_icmp_ge0N, e_iconst, e_iinc, e_iload, e_iload_n_1, e_imul, e_invs2_0, e_istore, e_istore_n_1, e_lastore, e_lconst, e_lload_n_2, e_lshl, e_lstore_n_2, e_newarray2, e_nop1N, e_obj, e_putfield, e_return, e_sipush, b5_0, b5_1, b5_2, b5_3, b5_4, q5_0, q5_1, q5_2, q5_3, q5_4, o_0, o_1, o_2, a_2, w_2, o_3, a_3, w_3, o_4, o_5, a_5, w_5, o_6, o_7, a_7, w_7, o_8, o_9, a_9, w_9, o_10, o_11, a_11, w_11, o_12, o_13, a_13, w_13, o_14, o_15, o_16, a_16, w_16, o_17, a_17, w_17, o_18, a_18, w_18, o_19, a_19, w_19, o_20, a_20, w_20, o_21, o_22, a_22, w_22, o_23, o_24, a_24, w_24, o_25, a_25, w_25, o_50, o_51, a_51, w_51, o_52, a_52, w_52, o_53, a_53, w_53, o_54, a_54, w_54, o_55, a_55, w_55, o_56, a_56, w_56, o_57, a_57, w_57, o_58, a_58, w_58, o_59, a_59, w_59, o_60, a_60, w_60, o_61, a_61, w_61, o_62, a_62, w_62, o_63, a_63, w_63, o_64, a_64, w_64, o_rp, o_rs, a_rs, w_rs, r_0_0, r_0_1, r_0_2, r_0_3, r_0_4, r_0_5, r_0_6, r_0_7, r_0_12, r_1_3, r_4_0, r_4_1, r_6_0, r_8_0, r_10_2, r_12_2, r_14_0, r_14_1, r_14_2, r_14_3, r_14_4, r_14_5, r_15_2, r_21_0, r_23_0, r_50_1, r_50_5, r_50_6, r_50_7, r_50_8, r_50_10, r_50_11, r_50_12, r_50_13, r_50_14, r_50_17, r_50_18, r_50_21, r_50_23, r_rp, r_rs, h_Fs, h_FF, h_FI, h_FL, h_Is, h_II, h_IF, h_IL, h_Ls, h_LL, h_LF, h_LI, nI_ltT, nI_ltF, nI_leT, nI_leF, nI_eqT, nI_eqF, ng_ltT, ng_ltF, ng_leT, ng_leF, ng_eqF, ng_eqG, n_ltT, n_leT, n_ltF, n_leF, n_eqF, n_eqG, ng_inj, zix_nI, zinR_nI, nI_add, ↓reduceIte, true_or, or_true, or_self, not_true, not_false, Nat.reduceAdd, l_s0g, l_s1g, l_t0g, List.tail_cons, List.tail_nil, new_5_2, new_5_2k, end_5, po_0, po_1, po_2, po_3, po_4, po_5, po_6, po_7, po_8, po_9, po_10, po_11, po_12, po_13, po_14, po_15, po_16, po_17, po_18, po_19, po_20, po_21, po_22, po_23, po_24, po_25, po_50, po_51, po_52, po_53, po_54, po_55, po_56, po_57, po_58, po_59, po_60, po_61, po_62, po_63, po_64, zmC_5, zmC_62, zmC_57, zmC_26, zmC_34, zmC_45, zmC_19, zmC_74, zmC_114, zmC_176, ad_0, ad_1, ad_2, ad_3, ad_4, ad_5, ad_6, ad_7, ad_8, ad_9, ad_10, ad_11, ad_12, ad_13, ad_14, ad_15, ad_16, ad_17, ad_18, ad_19, ad_20, ad_21, ad_22, ad_23, ad_24, ad_25, ad_26, ad_27, ad_28, ad_29, ad_30, ad_31, ad_32, ad_33, ad_34, ad_35, ad_36, ad_37, ad_38, ad_39, ad_40, ad_41, ad_42, ad_43, ad_44, ad_45, ad_46, ad_47, ad_48, ad_49, ad_50, ad_51, ad_52, ad_53, ad_54, ad_55, ad_56, ad_57, ad_58, ad_59, ad_60, ad_61, ad_62, ad_63, ad_64, ad_65, ae_15, ae_1, ae_51, Nat.reduceLT, Nat.reduceLeDiff, eq_self]
    exact hQ
  · rintro c H' hc ⟨k1, k2, k3⟩ ih t
    refine zgo_at 20 ?_
    simp (disch := first | assumption | omega) only [l_g0, l_gs, l_s0, l_s1, l_ss, l_sn0, l_sns, l_ki, l_kr, l_kl, l_ka, l_en, l_ei, l_er, t_I, t_R, t_W0, t_Wi, t_Wr, t_v0, t_v2, t_v3, i_p1, i_m1, t_k0, t_k1, k_some, k_none, true_and, and_true, ite_true, ite_false, Fin.isValue, l_t0, l_t1, l_ts, l_tn0, l_tns, l_el, t_L, t_Wl, t_v1, t_l0, t_l1, List.tail_cons, List.tail_nil, e_aload_n_0, e_bipush, e_getfield, e_goto1N, e_iadd, e_icmp_ge0N, e_iconst, e_iinc, e_iload, e_iload_n_1, e_imul, e_invs2_0, e_istore, e_istore_n_1, e_lastore, e_lconst, e_lload_n_2, e_lshl, e_lstore_n_2, e_newarray2, e_nop1N, e_obj, e_putfield, e_return, e_sipush, b5_0, b5_1, b5_2, b5_3, b5_4, q5_0, q5_1, q5_2, q5_3, q5_4, o_0, o_1, o_2, a_2, w_2, o_3, a_3, w_3, o_4, o_5, a_5, w_5, o_6, o_7, a_7, w_7, o_8, o_9, a_9, w_9, o_10, o_11, a_11, w_11, o_12, o_13, a_13, w_13, o_14, o_15, o_16, a_16, w_16, o_17, a_17, w_17, o_18, a_18, w_18, o_19, a_19, w_19, o_20, a_20, w_20, o_21, o_22, a_22, w_22, o_23, o_24, a_24, w_24, o_25, a_25, w_25, o_50, o_51, a_51, w_51, o_52, a_52, w_52, o_53, a_53, w_53, o_54, a_54, w_54, o_55, a_55, w_55, o_56, a_56, w_56, o_57, a_57, w_57, o_58, a_58, w_58, o_59, a_59, w_59, o_60, a_60, w_60, o_61, a_61, w_61, o_62, a_62, w_62, o_63, a_63, w_63, o_64, a_64, w_64, o_rp, o_rs, a_rs, w_rs, r_0_0, r_0_1, r_0_2, r_0_3, r_0_4, r_0_5, r_0_6, r_0_7, r_0_12, r_1_3, r_4_0, r_4_1, r_6_0, r_8_0, r_10_2, r_12_2, r_14_0, r_14_1, r_14_2, r_14_3, r_14_4, r_14_5, r_15_2, r_21_0, r_23_0, r_50_1, r_50_5, r_50_6, r_50_7, r_50_8, r_50_10, r_50_11, r_50_12, r_50_13, r_50_14, r_50_17, r_50_18, r_50_21, r_50_23, r_rp, r_rs, h_Fs, h_FF, h_FI, h_FL, h_Is, h_II, h_IF, h_IL, h_Ls, h_LL, h_LF, h_LI, nI_ltT, nI_ltF, nI_leT, nI_leF, nI_eqT, nI_eqF, ng_ltT, ng_ltF, ng_leT, ng_leF, ng_eqF, ng_eqG, n_ltT, n_leT, n_ltF, n_leF, n_eqF, n_eqG, ng_inj, zix_nI, zinR_nI, nI_add, ↓reduceIte, true_or, or_true, or_self, not_true, not_false, Nat.reduceAdd, l_s0g, l_s1g, l_t0g, List.tail_cons, List.tail_nil, new_5_2, new_5_2k, end_5, po_0, po_1, po_2, po_3, po_4, po_5, po_6, po_7, po_8, po_9, po_10, po_11, po_12, po_13, po_14, po_15, po_16, po_17, po_18, po_19, po_20, po_21, po_22, po_23, po_24, po_25, po_50, po_51, po_52, po_53, po_54, po_55, po_56, po_57, po_58, po_59, po_60, po_61, po_62, po_63, po_64, zmC_5, zmC_62, zmC_57, zmC_26, zmC_34, zmC_45, zmC_19, zmC_74, zmC_114, zmC_176, ad_0, ad_1, ad_2, ad_3, ad_4, ad_5, ad_6, ad_7, ad_8, ad_9, ad_10, ad_11, ad_12, ad_13, ad_14, ad_15, ad_16, ad_17, ad_18, ad_19, ad_20, ad_21, ad_22, ad_23, ad_24, ad_25, ad_26, ad_27, ad_28, ad_29, ad_30, ad_31, ad_32, ad_33, ad_34, ad_35, ad_36, ad_37, ad_38, ad_39, ad_40, ad_41, ad_42, ad_43, ad_44, ad_45, ad_46, ad_47, ad_48, ad_49, ad_50, ad_51, ad_52, ad_53, ad_54, ad_55, ad_56, ad_57, ad_58, ad_59, ad_60, ad_61, ad_62, ad_63, ad_64, ad_65, ae_15, ae_1, ae_51, Nat.reduceLT, Nat.reduceLeDiff, eq_self]
    refine zfor (R := fun r H2 => zsm (fun a => a = 1 ∨ a = 2) H H2 ∧ (H2.1 1 0 = .int (nI 3) ∧ H2.1 1 1 = .int (nI 2) ∧ H2.1 1 2 = .long (lN 0) ∧ H2.1 1 3 = .ref 2) ∧ (∀ r c', r < 3 → c' < c → ∀ d, d < 64 → zbit (H2.2.2 2 (64 * r + c')) d = zball r c' d) ∧ ∀ r', r' < r → ∀ d, d < 64 → zbit (H2.2.2 2 (64 * r' + c)) d = zball r' c d) (fun r H2 => ∀ (b : Int64) (t : List Value), (∀ d, d < 64 → zbit b d = zball r c d) → zAt X 5 2 3 2 (.ref 1 :: .int (nI c) :: .long b :: .retAddr 0 :: .int (nI r) :: t) [] H2 Q) 3 ?_ ?_ 0 H' (Nat.zero_le _) ⟨k1, k2, k3, fun r' h => absurd h (by omega)⟩ _ _ (fun d hd => ?_)
    · rintro H2 ⟨j1, j2, j3, j4⟩ b t hb
      have ih := ih H2 ⟨j1, j2, fun r c' hr hc' => by
        by_cases e : c' = c
        · subst e
          exact j4 r hr
        · exact j3 r c' hr (by omega)⟩
      refine zgo_at 20 ?_
      simp (disch := first | assumption | omega) only [l_g0, l_gs, l_s0, l_s1, l_ss, l_sn0, l_sns, l_ki, l_kr, l_kl, l_ka, l_en, l_ei, l_er, t_I, t_R, t_W0, t_Wi, t_Wr, t_v0, t_v2, t_v3, i_p1, i_m1, t_k0, t_k1, k_some, k_none, true_and, and_true, ite_true, ite_false, Fin.isValue, l_t0, l_t1, l_ts, l_tn0, l_tns, l_el, t_L, t_Wl, t_v1, t_l0, t_l1, List.tail_cons, List.tail_nil, e_aload_n_0, e_bipush, e_getfield, e_goto1N, e_iadd, e_icmp_ge0N, e_iconst, e_iinc, e_iload, e_iload_n_1, e_imul, e_invs2_0, e_istore, e_istore_n_1, e_lastore, e_lconst, e_lload_n_2, e_lshl, e_lstore_n_2, e_newarray2, e_nop1N, e_obj, e_putfield, e_return, e_sipush, b5_0, b5_1, b5_2, b5_3, b5_4, q5_0, q5_1, q5_2, q5_3, q5_4, o_0, o_1, o_2, a_2, w_2, o_3, a_3, w_3, o_4, o_5, a_5, w_5, o_6, o_7, a_7, w_7, o_8, o_9, a_9, w_9, o_10, o_11, a_11, w_11, o_12, o_13, a_13, w_13, o_14, o_15, o_16, a_16, w_16, o_17, a_17, w_17, o_18, a_18, w_18, o_19, a_19, w_19, o_20, a_20, w_20, o_21, o_22, a_22, w_22, o_23, o_24, a_24, w_24, o_25, a_25, w_25, o_50, o_51, a_51, w_51, o_52, a_52, w_52, o_53, a_53, w_53, o_54, a_54, w_54, o_55, a_55, w_55, o_56, a_56, w_56, o_57, a_57, w_57, o_58, a_58, w_58, o_59, a_59, w_59, o_60, a_60, w_60, o_61, a_61, w_61, o_62, a_62, w_62, o_63, a_63, w_63, o_64, a_64, w_64, o_rp, o_rs, a_rs, w_rs, r_0_0, r_0_1, r_0_2, r_0_3, r_0_4, r_0_5, r_0_6, r_0_7, r_0_12, r_1_3, r_4_0, r_4_1, r_6_0, r_8_0, r_10_2, r_12_2, r_14_0, r_14_1, r_14_2, r_14_3, r_14_4, r_14_5, r_15_2, r_21_0, r_23_0, r_50_1, r_50_5, r_50_6, r_50_7, r_50_8, r_50_10, r_50_11, r_50_12, r_50_13, r_50_14, r_50_17, r_50_18, r_50_21, r_50_23, r_rp, r_rs, h_Fs, h_FF, h_FI, h_FL, h_Is, h_II, h_IF, h_IL, h_Ls, h_LL, h_LF, h_LI, nI_ltT, nI_ltF, nI_leT, nI_leF, nI_eqT, nI_eqF, ng_ltT, ng_ltF, ng_leT, ng_leF, ng_eqF, ng_eqG, n_ltT, n_leT, n_ltF, n_leF, n_eqF, n_eqG, ng_inj, zix_nI, zinR_nI, nI_add, ↓reduceIte, true_or, or_true, or_self, not_true, not_false, Nat.reduceAdd, l_s0g, l_s1g, l_t0g, List.tail_cons, List.tail_nil, new_5_2, new_5_2k, end_5, po_0, po_1, po_2, po_3, po_4, po_5, po_6, po_7, po_8, po_9, po_10, po_11, po_12, po_13, po_14, po_15, po_16, po_17, po_18, po_19, po_20, po_21, po_22, po_23, po_24, po_25, po_50, po_51, po_52, po_53, po_54, po_55, po_56, po_57, po_58, po_59, po_60, po_61, po_62, po_63, po_64, zmC_5, zmC_62, zmC_57, zmC_26, zmC_34, zmC_45, zmC_19, zmC_74, zmC_114, zmC_176, ad_0, ad_1, ad_2, ad_3, ad_4, ad_5, ad_6, ad_7, ad_8, ad_9, ad_10, ad_11, ad_12, ad_13, ad_14, ad_15, ad_16, ad_17, ad_18, ad_19, ad_20, ad_21, ad_22, ad_23, ad_24, ad_25, ad_26, ad_27, ad_28, ad_29, ad_30, ad_31, ad_32, ad_33, ad_34, ad_35, ad_36, ad_37, ad_38, ad_39, ad_40, ad_41, ad_42, ad_43, ad_44, ad_45, ad_46, ad_47, ad_48, ad_49, ad_50, ad_51, ad_52, ad_53, ad_54, ad_55, ad_56, ad_57, ad_58, ad_59, ad_60, ad_61, ad_62, ad_63, ad_64, ad_65, ae_15, ae_1, ae_51, Nat.reduceLT, Nat.reduceLeDiff, eq_self]
      exact ih _
    · rintro r H2 hr ⟨j1, j2, j3, j4⟩ ih2 b t hb
      have j23 := j2.2.2.2
      have e1 : r * 64 + c = 64 * r + c := by omega
      refine zgo_at 20 ?_
      simp (disch := first | assumption | omega) only [l_g0, l_gs, l_s0, l_s1, l_ss, l_sn0, l_sns, l_ki, l_kr, l_kl, l_ka, l_en, l_ei, l_er, t_I, t_R, t_W0, t_Wi, t_Wr, t_v0, t_v2, t_v3, i_p1, i_m1, t_k0, t_k1, k_some, k_none, true_and, and_true, ite_true, ite_false, Fin.isValue, l_t0, l_t1, l_ts, l_tn0, l_tns, l_el, t_L, t_Wl, t_v1, t_l0, t_l1, List.tail_cons, List.tail_nil, e_aload_n_0, e_bipush, e_getfield, e_goto1N, e_iadd, e_icmp_ge0N, e_iconst, e_iinc, e_iload, e_iload_n_1, e_imul, e_invs2_0, e_istore, e_istore_n_1, e_lastore, e_lconst, e_lload_n_2, e_lshl, e_lstore_n_2, e_newarray2, e_nop1N, e_obj, e_putfield, e_return, e_sipush, b5_0, b5_1, b5_2, b5_3, b5_4, q5_0, q5_1, q5_2, q5_3, q5_4, o_0, o_1, o_2, a_2, w_2, o_3, a_3, w_3, o_4, o_5, a_5, w_5, o_6, o_7, a_7, w_7, o_8, o_9, a_9, w_9, o_10, o_11, a_11, w_11, o_12, o_13, a_13, w_13, o_14, o_15, o_16, a_16, w_16, o_17, a_17, w_17, o_18, a_18, w_18, o_19, a_19, w_19, o_20, a_20, w_20, o_21, o_22, a_22, w_22, o_23, o_24, a_24, w_24, o_25, a_25, w_25, o_50, o_51, a_51, w_51, o_52, a_52, w_52, o_53, a_53, w_53, o_54, a_54, w_54, o_55, a_55, w_55, o_56, a_56, w_56, o_57, a_57, w_57, o_58, a_58, w_58, o_59, a_59, w_59, o_60, a_60, w_60, o_61, a_61, w_61, o_62, a_62, w_62, o_63, a_63, w_63, o_64, a_64, w_64, o_rp, o_rs, a_rs, w_rs, r_0_0, r_0_1, r_0_2, r_0_3, r_0_4, r_0_5, r_0_6, r_0_7, r_0_12, r_1_3, r_4_0, r_4_1, r_6_0, r_8_0, r_10_2, r_12_2, r_14_0, r_14_1, r_14_2, r_14_3, r_14_4, r_14_5, r_15_2, r_21_0, r_23_0, r_50_1, r_50_5, r_50_6, r_50_7, r_50_8, r_50_10, r_50_11, r_50_12, r_50_13, r_50_14, r_50_17, r_50_18, r_50_21, r_50_23, r_rp, r_rs, h_Fs, h_FF, h_FI, h_FL, h_Is, h_II, h_IF, h_IL, h_Ls, h_LL, h_LF, h_LI, nI_ltT, nI_ltF, nI_leT, nI_leF, nI_eqT, nI_eqF, ng_ltT, ng_ltF, ng_leT, ng_leF, ng_eqF, ng_eqG, n_ltT, n_leT, n_ltF, n_leF, n_eqF, n_eqG, ng_inj, zix_nI, zinR_nI, nI_add, ↓reduceIte, true_or, or_true, or_self, not_true, not_false, Nat.reduceAdd, l_s0g, l_s1g, l_t0g, List.tail_cons, List.tail_nil, new_5_2, new_5_2k, end_5, po_0, po_1, po_2, po_3, po_4, po_5, po_6, po_7, po_8, po_9, po_10, po_11, po_12, po_13, po_14, po_15, po_16, po_17, po_18, po_19, po_20, po_21, po_22, po_23, po_24, po_25, po_50, po_51, po_52, po_53, po_54, po_55, po_56, po_57, po_58, po_59, po_60, po_61, po_62, po_63, po_64, zmC_5, zmC_62, zmC_57, zmC_26, zmC_34, zmC_45, zmC_19, zmC_74, zmC_114, zmC_176, ad_0, ad_1, ad_2, ad_3, ad_4, ad_5, ad_6, ad_7, ad_8, ad_9, ad_10, ad_11, ad_12, ad_13, ad_14, ad_15, ad_16, ad_17, ad_18, ad_19, ad_20, ad_21, ad_22, ad_23, ad_24, ad_25, ad_26, ad_27, ad_28, ad_29, ad_30, ad_31, ad_32, ad_33, ad_34, ad_35, ad_36, ad_37, ad_38, ad_39, ad_40, ad_41, ad_42, ad_43, ad_44, ad_45, ad_46, ad_47, ad_48, ad_49, ad_50, ad_51, ad_52, ad_53, ad_54, ad_55, ad_56, ad_57, ad_58, ad_59, ad_60, ad_61, ad_62, ad_63, ad_64, ad_65, ae_15, ae_1, ae_51, Nat.reduceLT, Nat.reduceLeDiff, eq_self, nI_mul, j23, e1]
      refine x_grown9 (by decide) (fun b2 hb2 => ?_)
      have ih2 := fun t => ih2 (zsL H2 2 (64 * r + c) b) ⟨zsm_L j1 (Or.inr rfl), j2, fun r' c' hr' hc' d hd => by
        rw [h_LL _ _ _ _ _ _ (by omega)]
        exact j3 r' c' hr' hc' d hd, fun r' hr' d hd => by
        by_cases e : r' = r
        · subst e
          rw [h_Ls]
          exact hb d hd
        · rw [h_LL _ _ _ _ _ _ (by omega)]
          exact j4 r' (by omega) d hd⟩ b2 t (fun d hd => by
        rw [hb2 d hd]
        unfold zgr
        rw [hb d hd, zga_cong (q := fun w => !zball r c (d ^^^ 2 ^ w)) (fun w hw => by rw [hb _ (zx_w (by omega) hd)])]
        unfold zball
        rw [zga_cong (q := fun w => !decide (zpc ((c ^^^ d) ^^^ 2 ^ w) ≤ r)) (fun w hw => by rw [Nat.xor_assoc])]
        exact zball_s r hr _ (zx_lt hc hd))
      simp (disch := first | assumption | omega) only [l_g0, l_gs, l_s0, l_s1, l_ss, l_sn0, l_sns, l_ki, l_kr, l_kl, l_ka, l_en, l_ei, l_er, t_I, t_R, t_W0, t_Wi, t_Wr, t_v0, t_v2, t_v3, i_p1, i_m1, t_k0, t_k1, k_some, k_none, true_and, and_true, ite_true, ite_false, Fin.isValue, l_t0, l_t1, l_ts, l_tn0, l_tns, l_el, t_L, t_Wl, t_v1, t_l0, t_l1, List.tail_cons, List.tail_nil, e_aload_n_0, e_bipush, e_getfield, e_goto1N, e_iadd, e_icmp_ge0N, e_iconst, e_iinc, e_iload, e_iload_n_1, e_imul, e_invs2_0, e_istore, e_istore_n_1, e_lastore, e_lconst, e_lload_n_2, e_lshl, e_lstore_n_2, e_newarray2, e_nop1N, e_obj, e_putfield, e_return, e_sipush, b5_0, b5_1, b5_2, b5_3, b5_4, q5_0, q5_1, q5_2, q5_3, q5_4, o_0, o_1, o_2, a_2, w_2, o_3, a_3, w_3, o_4, o_5, a_5, w_5, o_6, o_7, a_7, w_7, o_8, o_9, a_9, w_9, o_10, o_11, a_11, w_11, o_12, o_13, a_13, w_13, o_14, o_15, o_16, a_16, w_16, o_17, a_17, w_17, o_18, a_18, w_18, o_19, a_19, w_19, o_20, a_20, w_20, o_21, o_22, a_22, w_22, o_23, o_24, a_24, w_24, o_25, a_25, w_25, o_50, o_51, a_51, w_51, o_52, a_52, w_52, o_53, a_53, w_53, o_54, a_54, w_54, o_55, a_55, w_55, o_56, a_56, w_56, o_57, a_57, w_57, o_58, a_58, w_58, o_59, a_59, w_59, o_60, a_60, w_60, o_61, a_61, w_61, o_62, a_62, w_62, o_63, a_63, w_63, o_64, a_64, w_64, o_rp, o_rs, a_rs, w_rs, r_0_0, r_0_1, r_0_2, r_0_3, r_0_4, r_0_5, r_0_6, r_0_7, r_0_12, r_1_3, r_4_0, r_4_1, r_6_0, r_8_0, r_10_2, r_12_2, r_14_0, r_14_1, r_14_2, r_14_3, r_14_4, r_14_5, r_15_2, r_21_0, r_23_0, r_50_1, r_50_5, r_50_6, r_50_7, r_50_8, r_50_10, r_50_11, r_50_12, r_50_13, r_50_14, r_50_17, r_50_18, r_50_21, r_50_23, r_rp, r_rs, h_Fs, h_FF, h_FI, h_FL, h_Is, h_II, h_IF, h_IL, h_Ls, h_LL, h_LF, h_LI, nI_ltT, nI_ltF, nI_leT, nI_leF, nI_eqT, nI_eqF, ng_ltT, ng_ltF, ng_leT, ng_leF, ng_eqF, ng_eqG, n_ltT, n_leT, n_ltF, n_leF, n_eqF, n_eqG, ng_inj, zix_nI, zinR_nI, nI_add, ↓reduceIte, true_or, or_true, or_self, not_true, not_false, Nat.reduceAdd, l_s0g, l_s1g, l_t0g, List.tail_cons, List.tail_nil]
      exact ih2 _
    · rw [zone_shl _ hc d hd]
      unfold zball
      rw [← zball_0 _ (zx_lt hc hd), decide_eq_decide, zx_eq0]
      exact eq_comm
  · simp (disch := omega) only [h_FF, h_Fs, h_rFs, h_rFn, h_rFI, h_rFL, h_rIs, h_rIn, h_rIF, h_rIL, h_rLs, h_rLn, h_rLF, h_rLI]
  · simp (disch := omega) only [h_FF, h_Fs, h_rFs, h_rFn, h_rFI, h_rFL, h_rIs, h_rIn, h_rIF, h_rIL, h_rLs, h_rLn, h_rLF, h_rLI]
  · simp (disch := omega) only [h_FF, h_Fs, h_rFs, h_rFn, h_rFI, h_rFL, h_rIs, h_rIn, h_rIF, h_rIL, h_rLs, h_rLn, h_rLF, h_rLI]
  · simp (disch := omega) only [h_FF, h_Fs, h_rFs, h_rFn, h_rFI, h_rFL, h_rIs, h_rIn, h_rIF, h_rIL, h_rLs, h_rLn, h_rLF, h_rLI]
