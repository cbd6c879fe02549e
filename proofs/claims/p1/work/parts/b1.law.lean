/-! ===== LEVEL 3: the law's loop out of what each call owes (printed) ===== -/
/-- the script stays -/
abbrev scr (m x : ev_M) : Prop := x.1 1020 = m.1 1020 ∧ x.1 1021 = m.1 1021
def LC_0 (I : ev_M → Prop) (m : ev_M) : Prop := ∀ a b c d e, Ok (fFeed m a b c d e) fun x => scr m x.1 ∧ Ok (fM_feed x.1 a b c d e) fun z => z.1.1 549 0 = x.2 ∧ (x.2 = 0 → lg_cmp (z.1.2.1 681 (ix (cI 0))) (Int32.toInt64 z.2) = 0) ∧ I z.1
def LC_1 (I : ev_M → Prop) (m : ev_M) : Prop := ∀ a, Ok (fEnd m a) fun x => scr m x.1 ∧ Ok (fM_end x.1 a) fun z => z.1 549 0 = x.2 ∧ I z
def LC_2 (I : ev_M → Prop) (m : ev_M) : Prop := Ok (fPH_sync m) fun x => scr m x.1 ∧ Ok (fM_sync x.1) fun z => x.2 = z.2 ∧ I z.1
def LC_3 (I : ev_M → Prop) (m : ev_M) : Prop := ∀ a b, Ok (fPH_cut m a b) fun x => scr m x.1 ∧ Ok (fM_cut x.1 a b) fun z => x.2 = z.2 ∧ I z.1
def LC_4 (I : ev_M → Prop) (m : ev_M) : Prop := Ok (fPH_start m) fun x => scr m x.1 ∧ Ok (fM_start x.1) fun z => x.2 = z.2 ∧ I z.1
def LC_5 (I : ev_M → Prop) (m : ev_M) : Prop := Ok (fPH_verify m) fun x => Ok (fM_verify m) fun z => x = z.2 ∧ I z.1
def LC_6 (I : ev_M → Prop) (m : ev_M) : Prop := ∀ a b, Ok (fOctet m a b) fun x => scr m x.1 ∧ Ok (fM_octet x.1 a b) fun z => z.1.1 549 0 = x.2 ∧ (x.2 = 0 → lg_cmp (z.1.2.1 681 (ix (cI 0))) (Int32.toInt64 z.2) = 0) ∧ I z.1
def LC_7 (I : ev_M → Prop) (m : ev_M) : Prop := ∀ a b c, Ok (fPoke m a b c) fun x => scr m x.1 ∧ Ok (fM_poke x.1 a b c) fun z => z.1.1 549 0 = x.2 ∧ (x.2 = 0 → lg_cmp (z.1.2.1 681 (ix (cI 0))) (Int32.toInt64 z.2) = 0) ∧ I z.1
def LC_8 (I : ev_M → Prop) (m : ev_M) : Prop := ∀ a, Ok (fPH_count m a) fun x => Ok (fM_count m a) fun z => x = z.2 ∧ I z.1
def LC_9 (I : ev_M → Prop) (m : ev_M) : Prop := Ok (fPH_book m) fun x => scr m x.1 ∧ Ok (fM_book x.1) fun z => x.2 = z.2 ∧ I z.1
def LC_10 (I : ev_M → Prop) (m : ev_M) : Prop := ∀ a b c d, Ok (fPH_forward m a b c d) fun x => scr m x.1 ∧ Ok (fM_forward x.1 a b c d) fun z => x.2 = z.2 ∧ I z.1
def LC_11 (I : ev_M → Prop) (m : ev_M) : Prop := ∀ a b c, Ok (fPH_hold m a b c) fun x => scr m x.1 ∧ Ok (fM_hold x.1 a b c) fun z => x.2 = z.2 ∧ I z.1
def LC_12 (I : ev_M → Prop) (m : ev_M) : Prop := ∀ a b, Ok (fPH_effective m a b) fun x => scr m x.1 ∧ Ok (fM_effective x.1 a b) fun z => x.2 = z.2 ∧ I z.1
def LC_13 (I : ev_M → Prop) (m : ev_M) : Prop := ∀ a b, Ok (fPH_lastPoint m a b) fun x => scr m x.1 ∧ Ok (fM_lastPoint x.1 a b) fun z => x.2 = z.2 ∧ I z.1
def LC_14 (I : ev_M → Prop) (m : ev_M) : Prop := ∀ a, Ok (fPH_find m a) fun x => Ok (fM_find m a) fun z => x = z.2 ∧ I z.1
def LC_15 (I : ev_M → Prop) (m : ev_M) : Prop := ∀ a b, Ok (fPH_pointAt m a b) fun x => Ok (fM_pointAt m a b) fun z => x = z.2 ∧ I z.1
def LC_16 (I : ev_M → Prop) (m : ev_M) : Prop := ∀ a, Ok (fPH_sheet m a) fun x => scr m x.1 ∧ Ok (fM_sheet x.1 a) fun z => x.2 = z.2 ∧ I z.1
def LC_17 (I : ev_M → Prop) (m : ev_M) : Prop := Ok (fPH_read m) fun x => Ok (fM_read m) fun z => x = z.2 ∧ I z.1
def LC_18 (I : ev_M → Prop) (m : ev_M) : Prop := ∀ a b, Ok (fPH_textLine m a b) fun x => Ok (fM_textLine m a b) fun z => x = z.2 ∧ I z.1
def LC_19 (I : ev_M → Prop) (m : ev_M) : Prop := ∀ a b c, Ok (fPH_sign m a b c) fun x => Ok (fM_sign m a b c) fun z => x = z.2 ∧ I z.1
def LC_20 (I : ev_M → Prop) (m : ev_M) : Prop := ∀ a b c d e f, Ok (fPH_item m a b c d e f) fun x => scr m x.1 ∧ Ok (fM_item x.1 a b c d e f) fun z => x.2 = z.2 ∧ I z.1
def LC_21 (I : ev_M → Prop) (m : ev_M) : Prop := ∀ a b, Ok (fPH_address m a b) fun x => scr m x.1 ∧ Ok (fM_address x.1 a b) fun z => x.2 = z.2 ∧ I z.1
def LC_22 (I : ev_M → Prop) (m : ev_M) : Prop := ∀ a, Ok (fPH_take m a) fun x => scr m x.1 ∧ Ok (fM_take x.1 a) fun z => x.2 = z.2 ∧ I z.1
def LC_23 (I : ev_M → Prop) (m : ev_M) : Prop := ∀ a b c, Ok (fPH_clerk m a b c) fun x => scr m x.1 ∧ Ok (fM_clerk x.1 a b c) fun z => x.2 = z.2 ∧ I z.1
def LC_24 (I : ev_M → Prop) (m : ev_M) : Prop := ∀ a b, Ok (fPH_post m a b) fun x => scr m x.1 ∧ Ok (fM_post x.1 a b) fun z => x.2 = z.2 ∧ I z.1
def LC_25 (I : ev_M → Prop) (m : ev_M) : Prop := ∀ a b, Ok (fPH_about m a b) fun x => scr m x.1 ∧ Ok (fM_about x.1 a b) fun z => x.2 = z.2 ∧ I z.1
def LC_26 (I : ev_M → Prop) (m : ev_M) : Prop := ∀ a b, Ok (fPH_bar m a b) fun x => scr m x.1 ∧ Ok (fM_bar x.1 a b) fun z => x.2 = z.2 ∧ I z.1
def LC_27 (I : ev_M → Prop) (m : ev_M) : Prop := Ok (fPH_scan m) fun x => scr m x.1 ∧ Ok (fM_scan x.1) fun z => x.2 = z.2 ∧ I z.1
def LC_28 (I : ev_M → Prop) (m : ev_M) : Prop := Ok (fPH_mended m) fun x => Ok (fM_mended m) fun z => x = z.2 ∧ I z.1
def LC_29 (I : ev_M → Prop) (m : ev_M) : Prop := ∀ a b c d, Ok (fPH_machine m a b c d) fun x => scr m x.1 ∧ Ok (fM_machine x.1 a b c d) fun z => x.2 = z.2 ∧ I z.1
def LC_30 (I : ev_M → Prop) (m : ev_M) : Prop := ∀ a b c, Ok (fPH_round m a b c) fun x => scr m x.1 ∧ Ok (fM_round x.1 a b c) fun z => x.2 = z.2 ∧ I z.1
def LC_31 (I : ev_M → Prop) (m : ev_M) : Prop := ∀ a b, Ok (fPH_assign m a b) fun x => scr m x.1 ∧ Ok (fM_assign x.1 a b) fun z => x.2 = z.2 ∧ I z.1
def LC_32 (I : ev_M → Prop) (m : ev_M) : Prop := ∀ a, Ok (fPH_arrange m a) fun x => scr m x.1 ∧ Ok (fM_arrange x.1 a) fun z => x.2 = z.2 ∧ I z.1
def LC_33 (I : ev_M → Prop) (m : ev_M) : Prop := ∀ a b, Ok (fPH_stop m a b) fun x => Ok (fM_stop m a b) fun z => x = z.2 ∧ I z.1
def LC_34 (I : ev_M → Prop) (m : ev_M) : Prop := ∀ a, Ok (fPH_sort m a) fun x => scr m x.1 ∧ Ok (fM_sort x.1 a) fun z => x.2 = z.2 ∧ I z.1
def LC_35 (I : ev_M → Prop) (m : ev_M) : Prop := Ok (fPH_passes m) fun x => Ok (fM_passes m) fun z => x = z.2 ∧ I z.1
def LC_36 (I : ev_M → Prop) (m : ev_M) : Prop := ∀ a, Ok (fPH_wrong m a) fun x => Ok (fM_wrong m a) fun z => x = z.2 ∧ I z.1
def LC_37 (I : ev_M → Prop) (m : ev_M) : Prop := ∀ a b, Ok (fPH_row m a b) fun x => Ok (fM_row m a b) fun z => x = z.2 ∧ I z.1
def LC_38 (I : ev_M → Prop) (m : ev_M) : Prop := ∀ a, Ok (fPH_out m a) fun x => scr m x.1 ∧ Ok (fM_out x.1 a) fun z => x.2 = z.2 ∧ I z.1
def LC_39 (I : ev_M → Prop) (m : ev_M) : Prop := ∀ a b c d e, Ok (fPH_leg m a b c d e) fun x => scr m x.1 ∧ Ok (fM_leg x.1 a b c d e) fun z => x.2 = z.2 ∧ I z.1
def LC_40 (I : ev_M → Prop) (m : ev_M) : Prop := ∀ a b, Ok (fPH_late m a b) fun x => scr m x.1 ∧ Ok (fM_late x.1 a b) fun z => x.2 = z.2 ∧ I z.1
def LC_41 (I : ev_M → Prop) (m : ev_M) : Prop := ∀ a b, Ok (fPH_bag m a b) fun x => scr m x.1 ∧ Ok (fM_bag x.1 a b) fun z => x.2 = z.2 ∧ I z.1
def LC_42 (I : ev_M → Prop) (m : ev_M) : Prop := ∀ a b, Ok (fPH_into m a b) fun x => scr m x.1 ∧ Ok (fM_into x.1 a b) fun z => x.2 = z.2 ∧ I z.1
def LC_43 (I : ev_M → Prop) (m : ev_M) : Prop := ∀ a, Ok (fPH_closeBag m a) fun x => scr m x.1 ∧ Ok (fM_closeBag x.1 a) fun z => x.2 = z.2 ∧ I z.1
def LC_44 (I : ev_M → Prop) (m : ev_M) : Prop := ∀ a, Ok (fPH_openBag m a) fun x => scr m x.1 ∧ Ok (fM_openBag x.1 a) fun z => x.2 = z.2 ∧ I z.1
def LC_45 (I : ev_M → Prop) (m : ev_M) : Prop := ∀ a b, Ok (fPH_bagAt m a b) fun x => Ok (fM_bagAt m a b) fun z => x = z.2 ∧ I z.1
def LC_46 (I : ev_M → Prop) (m : ev_M) : Prop := ∀ a b c, Ok (fPH_way m a b c) fun x => scr m x.1 ∧ Ok (fM_way x.1 a b c) fun z => x.2 = z.2 ∧ I z.1
def LC_47 (I : ev_M → Prop) (m : ev_M) : Prop := ∀ a b c d, Ok (fPH_hand m a b c d) fun x => scr m x.1 ∧ Ok (fM_hand x.1 a b c d) fun z => x.2 = z.2 ∧ I z.1
def LC_48 (I : ev_M → Prop) (m : ev_M) : Prop := ∀ a, Ok (fPH_miss m a) fun x => scr m x.1 ∧ Ok (fM_miss x.1 a) fun z => x.2 = z.2 ∧ I z.1
def LC_49 (I : ev_M → Prop) (m : ev_M) : Prop := ∀ a, Ok (fPH_refuse m a) fun x => scr m x.1 ∧ Ok (fM_refuse x.1 a) fun z => x.2 = z.2 ∧ I z.1
def LC_50 (I : ev_M → Prop) (m : ev_M) : Prop := ∀ a b, Ok (fPH_put m a b) fun x => scr m x.1 ∧ Ok (fM_put x.1 a b) fun z => x.2 = z.2 ∧ I z.1
def LC_51 (I : ev_M → Prop) (m : ev_M) : Prop := ∀ a b c d, Ok (fPH_pickUp m a b c d) fun x => scr m x.1 ∧ Ok (fM_pickUp x.1 a b c d) fun z => x.2 = z.2 ∧ I z.1
def LC_52 (I : ev_M → Prop) (m : ev_M) : Prop := ∀ a b, Ok (fPH_openBox m a b) fun x => scr m x.1 ∧ Ok (fM_openBox x.1 a b) fun z => x.2 = z.2 ∧ I z.1
def LC_53 (I : ev_M → Prop) (m : ev_M) : Prop := ∀ a, Ok (fPH_lose m a) fun x => scr m x.1 ∧ Ok (fM_lose x.1 a) fun z => x.2 = z.2 ∧ I z.1
def LC_54 (I : ev_M → Prop) (m : ev_M) : Prop := ∀ a, Ok (fPH_account m a) fun x => scr m x.1 ∧ Ok (fM_account x.1 a) fun z => x.2 = z.2 ∧ I z.1
def LC_55 (I : ev_M → Prop) (m : ev_M) : Prop := ∀ a b, Ok (fPH_deposit m a b) fun x => scr m x.1 ∧ Ok (fM_deposit x.1 a b) fun z => x.2 = z.2 ∧ I z.1
def LC_56 (I : ev_M → Prop) (m : ev_M) : Prop := ∀ a, Ok (fPH_balance m a) fun x => Ok (fM_balance m a) fun z => lg_cmp x z.2 = 0 ∧ I z.1
def LC_57 (I : ev_M → Prop) (m : ev_M) : Prop := ∀ a b, Ok (fPH_entry m a b) fun x => Ok (fM_entry m a b) fun z => x = z.2 ∧ I z.1
def LC_58 (I : ev_M → Prop) (m : ev_M) : Prop := Ok (fPH_tariff m) fun x => scr m x.1 ∧ Ok (fM_tariff x.1) fun z => x.2 = z.2 ∧ I z.1
def LC_59 (I : ev_M → Prop) (m : ev_M) : Prop := ∀ a, Ok (fPH_price m a) fun x => Ok (fM_price m a) fun z => x = z.2 ∧ I z.1
def LC_60 (I : ev_M → Prop) (m : ev_M) : Prop := ∀ a, Ok (fPH_frank m a) fun x => scr m x.1 ∧ Ok (fM_frank x.1 a) fun z => x.2 = z.2 ∧ I z.1
def LC_61 (I : ev_M → Prop) (m : ev_M) : Prop := ∀ a b c, Ok (fPH_order m a b c) fun x => scr m x.1 ∧ Ok (fM_order x.1 a b c) fun z => x.2 = z.2 ∧ I z.1
def LC_62 (I : ev_M → Prop) (m : ev_M) : Prop := ∀ a b c, Ok (fPH_payOut m a b c) fun x => scr m x.1 ∧ Ok (fM_payOut x.1 a b c) fun z => x.2 = z.2 ∧ I z.1
def LC_63 (I : ev_M → Prop) (m : ev_M) : Prop := ∀ a b, Ok (fPH_orderAt m a b) fun x => Ok (fM_orderAt m a b) fun z => x = z.2 ∧ I z.1
def LC_64 (I : ev_M → Prop) (m : ev_M) : Prop := ∀ a b, Ok (fPH_claim m a b) fun x => scr m x.1 ∧ Ok (fM_claim x.1 a b) fun z => x.2 = z.2 ∧ I z.1
def LC_65 (I : ev_M → Prop) (m : ev_M) : Prop := ∀ a b, Ok (fPH_locker m a b) fun x => scr m x.1 ∧ Ok (fM_locker x.1 a b) fun z => x.2 = z.2 ∧ I z.1
def LC_66 (I : ev_M → Prop) (m : ev_M) : Prop := ∀ a b, Ok (fPH_lockerAt m a b) fun x => Ok (fM_lockerAt m a b) fun z => x = z.2 ∧ I z.1
def LC_67 (I : ev_M → Prop) (m : ev_M) : Prop := ∀ a b, Ok (fPH_device m a b) fun x => scr m x.1 ∧ Ok (fM_device x.1 a b) fun z => x.2 = z.2 ∧ I z.1
def LC_68 (I : ev_M → Prop) (m : ev_M) : Prop := ∀ a b c d, Ok (fPH_scanned m a b c d) fun x => scr m x.1 ∧ Ok (fM_scanned x.1 a b c d) fun z => x.2 = z.2 ∧ I z.1
def LC_69 (I : ev_M → Prop) (m : ev_M) : Prop := ∀ a b c, Ok (fPH_trace m a b c) fun x => Ok (fM_trace m a b c) fun z => x = z.2 ∧ I z.1
def LC_70 (I : ev_M → Prop) (m : ev_M) : Prop := ∀ a b c, bz c = true → Ok (fPH_wish m a b c) fun x => scr m x.1 ∧ Ok (fM_wish x.1 a b c) fun z => x.2 = z.2 ∧ I z.1
def LC_71 (I : ev_M → Prop) (m : ev_M) : Prop := ∀ a b, Ok (fPH_notice m a b) fun x => Ok (fM_notice m a b) fun z => x = z.2 ∧ I z.1
def LC_72 (I : ev_M → Prop) (m : ev_M) : Prop := ∀ a, Ok (fPH_tick m a) fun x => scr m x.1 ∧ Ok (fM_tick x.1 a) fun z => x.2 = z.2 ∧ I z.1
def LC_73 (I : ev_M → Prop) (m : ev_M) : Prop := Ok (fPH_now m) fun x => Ok (fM_now m) fun z => x = z.2 ∧ I z.1
def LC_74 (I : ev_M → Prop) (m : ev_M) : Prop := Ok (fPH_audit m) fun x => scr m x.1 ∧ Ok (fM_audit x.1) fun z => x.2 = z.2 ∧ I z.1
def LCs (I : ev_M → Prop) (m : ev_M) : Prop := LC_0 I m ∧ LC_1 I m ∧ LC_2 I m ∧ LC_3 I m ∧ LC_4 I m ∧ LC_5 I m ∧ LC_6 I m ∧ LC_7 I m ∧ LC_8 I m ∧ LC_9 I m ∧ LC_10 I m ∧ LC_11 I m ∧ LC_12 I m ∧ LC_13 I m ∧ LC_14 I m ∧ LC_15 I m ∧ LC_16 I m ∧ LC_17 I m ∧ LC_18 I m ∧ LC_19 I m ∧ LC_20 I m ∧ LC_21 I m ∧ LC_22 I m ∧ LC_23 I m ∧ LC_24 I m ∧ LC_25 I m ∧ LC_26 I m ∧ LC_27 I m ∧ LC_28 I m ∧ LC_29 I m ∧ LC_30 I m ∧ LC_31 I m ∧ LC_32 I m ∧ LC_33 I m ∧ LC_34 I m ∧ LC_35 I m ∧ LC_36 I m ∧ LC_37 I m ∧ LC_38 I m ∧ LC_39 I m ∧ LC_40 I m ∧ LC_41 I m ∧ LC_42 I m ∧ LC_43 I m ∧ LC_44 I m ∧ LC_45 I m ∧ LC_46 I m ∧ LC_47 I m ∧ LC_48 I m ∧ LC_49 I m ∧ LC_50 I m ∧ LC_51 I m ∧ LC_52 I m ∧ LC_53 I m ∧ LC_54 I m ∧ LC_55 I m ∧ LC_56 I m ∧ LC_57 I m ∧ LC_58 I m ∧ LC_59 I m ∧ LC_60 I m ∧ LC_61 I m ∧ LC_62 I m ∧ LC_63 I m ∧ LC_64 I m ∧ LC_65 I m ∧ LC_66 I m ∧ LC_67 I m ∧ LC_68 I m ∧ LC_69 I m ∧ LC_70 I m ∧ LC_71 I m ∧ LC_72 I m ∧ LC_73 I m ∧ LC_74 I m
theorem m_thrown {s : ev_M} : fM_thrown s = some (s.1 549 0) := rfl
section
variable {n : Nat} {m : ev_M} {x4 : Int32} {I : ev_M → Prop} {P : ev_M × Int32 → Prop}
theorem ls_0 (h1 : x4 ≤ m.1 1021 0 - cI 7) (h2 : inb x4 (ix (m.1 1021 0)) = true) (g1 : inb (x4 + cI 1) (ix (m.1 1021 0)) = true) (g2 : inb (x4 + cI 2) (ix (m.1 1021 0)) = true) (g3 : inb (x4 + cI 3) (ix (m.1 1021 0)) = true) (g4 : inb (x4 + cI 4) (ix (m.1 1021 0)) = true) (g5 : inb (x4 + cI 5) (ix (m.1 1021 0)) = true) (g6 : inb (x4 + cI 6) (ix (m.1 1021 0)) = true) (K : ∀ z, I z → Ok (fLaw_h23 n z (x4 + cI 7)) P) (hj : ((m.1 1020 (ix x4)) &&& (cI 127)) = cI 0) (H : LC_0 I m) : Ok (fLaw_h23 (n + 1) m x4) P := by
  rw [lw_0 h1 h2 hj]
  simp only [if_pos g1, if_pos g2, if_pos g3, if_pos g4, if_pos g5, if_pos g6]
  obtain ⟨x, ex, ⟨e0, e1⟩, z, ez, ev, ev2, hI⟩ := H (m.1 1020 (ix (x4 + cI 1))) (m.1 1020 (ix (x4 + cI 2))) (m.1 1020 (ix (x4 + cI 3))) (m.1 1020 (ix (x4 + cI 4))) (m.1 1020 (ix (x4 + cI 5)))
  rw [ex, bd2_some, e1, e0]
  simp only [if_pos g1, if_pos g2, if_pos g3, if_pos g4, if_pos g5, if_pos g6]
  rw [ez, bd2_some, m_thrown, bd1_some, if_pos ev]
  by_cases hx : x.2 = 0
  · rw [if_pos hx, if_pos (ev2 hx)]
    exact K _ hI
  · rw [if_neg hx]
    exact K _ hI
theorem ls_1 (h1 : x4 ≤ m.1 1021 0 - cI 7) (h2 : inb x4 (ix (m.1 1021 0)) = true) (g1 : inb (x4 + cI 1) (ix (m.1 1021 0)) = true) (g2 : inb (x4 + cI 2) (ix (m.1 1021 0)) = true) (g3 : inb (x4 + cI 3) (ix (m.1 1021 0)) = true) (g4 : inb (x4 + cI 4) (ix (m.1 1021 0)) = true) (g5 : inb (x4 + cI 5) (ix (m.1 1021 0)) = true) (g6 : inb (x4 + cI 6) (ix (m.1 1021 0)) = true) (K : ∀ z, I z → Ok (fLaw_h23 n z (x4 + cI 7)) P) (hj : ((m.1 1020 (ix x4)) &&& (cI 127)) = cI 1) (H : LC_1 I m) : Ok (fLaw_h23 (n + 1) m x4) P := by
  rw [lw_1 h1 h2 hj]
  simp only [if_pos g1, if_pos g2, if_pos g3, if_pos g4, if_pos g5, if_pos g6]
  obtain ⟨x, ex, ⟨e0, e1⟩, z, ez, ev, hI⟩ := H (m.1 1020 (ix (x4 + cI 1)))
  rw [ex, bd2_some, e1, e0]
  simp only [if_pos g1, if_pos g2, if_pos g3, if_pos g4, if_pos g5, if_pos g6]
  rw [ez, bd1_some, m_thrown, bd1_some, if_pos ev]
  exact K _ hI
theorem ls_2 (h1 : x4 ≤ m.1 1021 0 - cI 7) (h2 : inb x4 (ix (m.1 1021 0)) = true) (g1 : inb (x4 + cI 1) (ix (m.1 1021 0)) = true) (g2 : inb (x4 + cI 2) (ix (m.1 1021 0)) = true) (g3 : inb (x4 + cI 3) (ix (m.1 1021 0)) = true) (g4 : inb (x4 + cI 4) (ix (m.1 1021 0)) = true) (g5 : inb (x4 + cI 5) (ix (m.1 1021 0)) = true) (g6 : inb (x4 + cI 6) (ix (m.1 1021 0)) = true) (K : ∀ z, I z → Ok (fLaw_h23 n z (x4 + cI 7)) P) (hj : ((m.1 1020 (ix x4)) &&& (cI 127)) = cI 2) (H : LC_2 I m) : Ok (fLaw_h23 (n + 1) m x4) P := by
  rw [lw_2 h1 h2 hj]
  obtain ⟨x, ex, ⟨e0, e1⟩, z, ez, ev, hI⟩ := H
  rw [ex, bd2_some]
  rw [ez, bd2_some, if_pos ev]
  exact K _ hI
theorem ls_3 (h1 : x4 ≤ m.1 1021 0 - cI 7) (h2 : inb x4 (ix (m.1 1021 0)) = true) (g1 : inb (x4 + cI 1) (ix (m.1 1021 0)) = true) (g2 : inb (x4 + cI 2) (ix (m.1 1021 0)) = true) (g3 : inb (x4 + cI 3) (ix (m.1 1021 0)) = true) (g4 : inb (x4 + cI 4) (ix (m.1 1021 0)) = true) (g5 : inb (x4 + cI 5) (ix (m.1 1021 0)) = true) (g6 : inb (x4 + cI 6) (ix (m.1 1021 0)) = true) (K : ∀ z, I z → Ok (fLaw_h23 n z (x4 + cI 7)) P) (hj : ((m.1 1020 (ix x4)) &&& (cI 127)) = cI 3) (H : LC_3 I m) : Ok (fLaw_h23 (n + 1) m x4) P := by
  rw [lw_3 h1 h2 hj]
  simp only [if_pos g1, if_pos g2, if_pos g3, if_pos g4, if_pos g5, if_pos g6]
  obtain ⟨x, ex, ⟨e0, e1⟩, z, ez, ev, hI⟩ := H (m.1 1020 (ix (x4 + cI 1))) (m.1 1020 (ix (x4 + cI 2)))
  rw [ex, bd2_some, e1, e0]
  simp only [if_pos g1, if_pos g2, if_pos g3, if_pos g4, if_pos g5, if_pos g6]
  rw [ez, bd2_some, if_pos ev]
  exact K _ hI
theorem ls_4 (h1 : x4 ≤ m.1 1021 0 - cI 7) (h2 : inb x4 (ix (m.1 1021 0)) = true) (g1 : inb (x4 + cI 1) (ix (m.1 1021 0)) = true) (g2 : inb (x4 + cI 2) (ix (m.1 1021 0)) = true) (g3 : inb (x4 + cI 3) (ix (m.1 1021 0)) = true) (g4 : inb (x4 + cI 4) (ix (m.1 1021 0)) = true) (g5 : inb (x4 + cI 5) (ix (m.1 1021 0)) = true) (g6 : inb (x4 + cI 6) (ix (m.1 1021 0)) = true) (K : ∀ z, I z → Ok (fLaw_h23 n z (x4 + cI 7)) P) (hj : ((m.1 1020 (ix x4)) &&& (cI 127)) = cI 4) (H : LC_4 I m) : Ok (fLaw_h23 (n + 1) m x4) P := by
  rw [lw_4 h1 h2 hj]
  obtain ⟨x, ex, ⟨e0, e1⟩, z, ez, ev, hI⟩ := H
  rw [ex, bd2_some]
  rw [ez, bd2_some, if_pos ev]
  exact K _ hI
theorem ls_5 (h1 : x4 ≤ m.1 1021 0 - cI 7) (h2 : inb x4 (ix (m.1 1021 0)) = true) (g1 : inb (x4 + cI 1) (ix (m.1 1021 0)) = true) (g2 : inb (x4 + cI 2) (ix (m.1 1021 0)) = true) (g3 : inb (x4 + cI 3) (ix (m.1 1021 0)) = true) (g4 : inb (x4 + cI 4) (ix (m.1 1021 0)) = true) (g5 : inb (x4 + cI 5) (ix (m.1 1021 0)) = true) (g6 : inb (x4 + cI 6) (ix (m.1 1021 0)) = true) (K : ∀ z, I z → Ok (fLaw_h23 n z (x4 + cI 7)) P) (hj : ((m.1 1020 (ix x4)) &&& (cI 127)) = cI 5) (H : LC_5 I m) : Ok (fLaw_h23 (n + 1) m x4) P := by
  rw [lw_5 h1 h2 hj]
  obtain ⟨x, ex, z, ez, ev, hI⟩ := H
  rw [ex, bd1_some]
  rw [ez, bd2_some, if_pos ev]
  exact K _ hI
theorem ls_6 (h1 : x4 ≤ m.1 1021 0 - cI 7) (h2 : inb x4 (ix (m.1 1021 0)) = true) (g1 : inb (x4 + cI 1) (ix (m.1 1021 0)) = true) (g2 : inb (x4 + cI 2) (ix (m.1 1021 0)) = true) (g3 : inb (x4 + cI 3) (ix (m.1 1021 0)) = true) (g4 : inb (x4 + cI 4) (ix (m.1 1021 0)) = true) (g5 : inb (x4 + cI 5) (ix (m.1 1021 0)) = true) (g6 : inb (x4 + cI 6) (ix (m.1 1021 0)) = true) (K : ∀ z, I z → Ok (fLaw_h23 n z (x4 + cI 7)) P) (hj : ((m.1 1020 (ix x4)) &&& (cI 127)) = cI 6) (H : LC_6 I m) : Ok (fLaw_h23 (n + 1) m x4) P := by
  rw [lw_6 h1 h2 hj]
  simp only [if_pos g1, if_pos g2, if_pos g3, if_pos g4, if_pos g5, if_pos g6]
  obtain ⟨x, ex, ⟨e0, e1⟩, z, ez, ev, ev2, hI⟩ := H (m.1 1020 (ix (x4 + cI 1))) (m.1 1020 (ix (x4 + cI 2)))
  rw [ex, bd2_some, e1, e0]
  simp only [if_pos g1, if_pos g2, if_pos g3, if_pos g4, if_pos g5, if_pos g6]
  rw [ez, bd2_some, m_thrown, bd1_some, if_pos ev]
  by_cases hx : x.2 = 0
  · rw [if_pos hx, if_pos (ev2 hx)]
    exact K _ hI
  · rw [if_neg hx]
    exact K _ hI
theorem ls_7 (h1 : x4 ≤ m.1 1021 0 - cI 7) (h2 : inb x4 (ix (m.1 1021 0)) = true) (g1 : inb (x4 + cI 1) (ix (m.1 1021 0)) = true) (g2 : inb (x4 + cI 2) (ix (m.1 1021 0)) = true) (g3 : inb (x4 + cI 3) (ix (m.1 1021 0)) = true) (g4 : inb (x4 + cI 4) (ix (m.1 1021 0)) = true) (g5 : inb (x4 + cI 5) (ix (m.1 1021 0)) = true) (g6 : inb (x4 + cI 6) (ix (m.1 1021 0)) = true) (K : ∀ z, I z → Ok (fLaw_h23 n z (x4 + cI 7)) P) (hj : ((m.1 1020 (ix x4)) &&& (cI 127)) = cI 7) (H : LC_7 I m) : Ok (fLaw_h23 (n + 1) m x4) P := by
  rw [lw_7 h1 h2 hj]
  simp only [if_pos g1, if_pos g2, if_pos g3, if_pos g4, if_pos g5, if_pos g6]
  obtain ⟨x, ex, ⟨e0, e1⟩, z, ez, ev, ev2, hI⟩ := H (m.1 1020 (ix (x4 + cI 1))) (m.1 1020 (ix (x4 + cI 2))) (m.1 1020 (ix (x4 + cI 3)))
  rw [ex, bd2_some, e1, e0]
  simp only [if_pos g1, if_pos g2, if_pos g3, if_pos g4, if_pos g5, if_pos g6]
  rw [ez, bd2_some, m_thrown, bd1_some, if_pos ev]
  by_cases hx : x.2 = 0
  · rw [if_pos hx, if_pos (ev2 hx)]
    exact K _ hI
  · rw [if_neg hx]
    exact K _ hI
theorem ls_8 (h1 : x4 ≤ m.1 1021 0 - cI 7) (h2 : inb x4 (ix (m.1 1021 0)) = true) (g1 : inb (x4 + cI 1) (ix (m.1 1021 0)) = true) (g2 : inb (x4 + cI 2) (ix (m.1 1021 0)) = true) (g3 : inb (x4 + cI 3) (ix (m.1 1021 0)) = true) (g4 : inb (x4 + cI 4) (ix (m.1 1021 0)) = true) (g5 : inb (x4 + cI 5) (ix (m.1 1021 0)) = true) (g6 : inb (x4 + cI 6) (ix (m.1 1021 0)) = true) (K : ∀ z, I z → Ok (fLaw_h23 n z (x4 + cI 7)) P) (hj : ((m.1 1020 (ix x4)) &&& (cI 127)) = cI 8) (H : LC_8 I m) : Ok (fLaw_h23 (n + 1) m x4) P := by
  rw [lw_8 h1 h2 hj]
  simp only [if_pos g1, if_pos g2, if_pos g3, if_pos g4, if_pos g5, if_pos g6]
  obtain ⟨x, ex, z, ez, ev, hI⟩ := H (m.1 1020 (ix (x4 + cI 1)))
  rw [ex, bd1_some]
  rw [ez, bd2_some, if_pos ev]
  exact K _ hI
theorem ls_9 (h1 : x4 ≤ m.1 1021 0 - cI 7) (h2 : inb x4 (ix (m.1 1021 0)) = true) (g1 : inb (x4 + cI 1) (ix (m.1 1021 0)) = true) (g2 : inb (x4 + cI 2) (ix (m.1 1021 0)) = true) (g3 : inb (x4 + cI 3) (ix (m.1 1021 0)) = true) (g4 : inb (x4 + cI 4) (ix (m.1 1021 0)) = true) (g5 : inb (x4 + cI 5) (ix (m.1 1021 0)) = true) (g6 : inb (x4 + cI 6) (ix (m.1 1021 0)) = true) (K : ∀ z, I z → Ok (fLaw_h23 n z (x4 + cI 7)) P) (hj : ((m.1 1020 (ix x4)) &&& (cI 127)) = cI 9) (H : LC_9 I m) : Ok (fLaw_h23 (n + 1) m x4) P := by
  rw [lw_9 h1 h2 hj]
  obtain ⟨x, ex, ⟨e0, e1⟩, z, ez, ev, hI⟩ := H
  rw [ex, bd2_some]
  rw [ez, bd2_some, if_pos ev]
  exact K _ hI
theorem ls_10 (h1 : x4 ≤ m.1 1021 0 - cI 7) (h2 : inb x4 (ix (m.1 1021 0)) = true) (g1 : inb (x4 + cI 1) (ix (m.1 1021 0)) = true) (g2 : inb (x4 + cI 2) (ix (m.1 1021 0)) = true) (g3 : inb (x4 + cI 3) (ix (m.1 1021 0)) = true) (g4 : inb (x4 + cI 4) (ix (m.1 1021 0)) = true) (g5 : inb (x4 + cI 5) (ix (m.1 1021 0)) = true) (g6 : inb (x4 + cI 6) (ix (m.1 1021 0)) = true) (K : ∀ z, I z → Ok (fLaw_h23 n z (x4 + cI 7)) P) (hj : ((m.1 1020 (ix x4)) &&& (cI 127)) = cI 10) (H : LC_10 I m) : Ok (fLaw_h23 (n + 1) m x4) P := by
  rw [lw_10 h1 h2 hj]
  simp only [if_pos g1, if_pos g2, if_pos g3, if_pos g4, if_pos g5, if_pos g6]
  obtain ⟨x, ex, ⟨e0, e1⟩, z, ez, ev, hI⟩ := H (m.1 1020 (ix (x4 + cI 1))) (m.1 1020 (ix (x4 + cI 2))) (m.1 1020 (ix (x4 + cI 3))) (m.1 1020 (ix (x4 + cI 4)))
  rw [ex, bd2_some, e1, e0]
  simp only [if_pos g1, if_pos g2, if_pos g3, if_pos g4, if_pos g5, if_pos g6]
  rw [ez, bd2_some, if_pos ev]
  exact K _ hI
theorem ls_11 (h1 : x4 ≤ m.1 1021 0 - cI 7) (h2 : inb x4 (ix (m.1 1021 0)) = true) (g1 : inb (x4 + cI 1) (ix (m.1 1021 0)) = true) (g2 : inb (x4 + cI 2) (ix (m.1 1021 0)) = true) (g3 : inb (x4 + cI 3) (ix (m.1 1021 0)) = true) (g4 : inb (x4 + cI 4) (ix (m.1 1021 0)) = true) (g5 : inb (x4 + cI 5) (ix (m.1 1021 0)) = true) (g6 : inb (x4 + cI 6) (ix (m.1 1021 0)) = true) (K : ∀ z, I z → Ok (fLaw_h23 n z (x4 + cI 7)) P) (hj : ((m.1 1020 (ix x4)) &&& (cI 127)) = cI 11) (H : LC_11 I m) : Ok (fLaw_h23 (n + 1) m x4) P := by
  rw [lw_11 h1 h2 hj]
  simp only [if_pos g1, if_pos g2, if_pos g3, if_pos g4, if_pos g5, if_pos g6]
  obtain ⟨x, ex, ⟨e0, e1⟩, z, ez, ev, hI⟩ := H (m.1 1020 (ix (x4 + cI 1))) (m.1 1020 (ix (x4 + cI 2))) (m.1 1020 (ix (x4 + cI 3)))
  rw [ex, bd2_some, e1, e0]
  simp only [if_pos g1, if_pos g2, if_pos g3, if_pos g4, if_pos g5, if_pos g6]
  rw [ez, bd2_some, if_pos ev]
  exact K _ hI
theorem ls_12 (h1 : x4 ≤ m.1 1021 0 - cI 7) (h2 : inb x4 (ix (m.1 1021 0)) = true) (g1 : inb (x4 + cI 1) (ix (m.1 1021 0)) = true) (g2 : inb (x4 + cI 2) (ix (m.1 1021 0)) = true) (g3 : inb (x4 + cI 3) (ix (m.1 1021 0)) = true) (g4 : inb (x4 + cI 4) (ix (m.1 1021 0)) = true) (g5 : inb (x4 + cI 5) (ix (m.1 1021 0)) = true) (g6 : inb (x4 + cI 6) (ix (m.1 1021 0)) = true) (K : ∀ z, I z → Ok (fLaw_h23 n z (x4 + cI 7)) P) (hj : ((m.1 1020 (ix x4)) &&& (cI 127)) = cI 12) (H : LC_12 I m) : Ok (fLaw_h23 (n + 1) m x4) P := by
  rw [lw_12 h1 h2 hj]
  simp only [if_pos g1, if_pos g2, if_pos g3, if_pos g4, if_pos g5, if_pos g6]
  obtain ⟨x, ex, ⟨e0, e1⟩, z, ez, ev, hI⟩ := H (m.1 1020 (ix (x4 + cI 1))) (m.1 1020 (ix (x4 + cI 2)))
  rw [ex, bd2_some, e1, e0]
  simp only [if_pos g1, if_pos g2, if_pos g3, if_pos g4, if_pos g5, if_pos g6]
  rw [ez, bd2_some, if_pos ev]
  exact K _ hI
theorem ls_13 (h1 : x4 ≤ m.1 1021 0 - cI 7) (h2 : inb x4 (ix (m.1 1021 0)) = true) (g1 : inb (x4 + cI 1) (ix (m.1 1021 0)) = true) (g2 : inb (x4 + cI 2) (ix (m.1 1021 0)) = true) (g3 : inb (x4 + cI 3) (ix (m.1 1021 0)) = true) (g4 : inb (x4 + cI 4) (ix (m.1 1021 0)) = true) (g5 : inb (x4 + cI 5) (ix (m.1 1021 0)) = true) (g6 : inb (x4 + cI 6) (ix (m.1 1021 0)) = true) (K : ∀ z, I z → Ok (fLaw_h23 n z (x4 + cI 7)) P) (hj : ((m.1 1020 (ix x4)) &&& (cI 127)) = cI 13) (H : LC_13 I m) : Ok (fLaw_h23 (n + 1) m x4) P := by
  rw [lw_13 h1 h2 hj]
  simp only [if_pos g1, if_pos g2, if_pos g3, if_pos g4, if_pos g5, if_pos g6]
  obtain ⟨x, ex, ⟨e0, e1⟩, z, ez, ev, hI⟩ := H (m.1 1020 (ix (x4 + cI 1))) (m.1 1020 (ix (x4 + cI 2)))
  rw [ex, bd2_some, e1, e0]
  simp only [if_pos g1, if_pos g2, if_pos g3, if_pos g4, if_pos g5, if_pos g6]
  rw [ez, bd2_some, if_pos ev]
  exact K _ hI
theorem ls_14 (h1 : x4 ≤ m.1 1021 0 - cI 7) (h2 : inb x4 (ix (m.1 1021 0)) = true) (g1 : inb (x4 + cI 1) (ix (m.1 1021 0)) = true) (g2 : inb (x4 + cI 2) (ix (m.1 1021 0)) = true) (g3 : inb (x4 + cI 3) (ix (m.1 1021 0)) = true) (g4 : inb (x4 + cI 4) (ix (m.1 1021 0)) = true) (g5 : inb (x4 + cI 5) (ix (m.1 1021 0)) = true) (g6 : inb (x4 + cI 6) (ix (m.1 1021 0)) = true) (K : ∀ z, I z → Ok (fLaw_h23 n z (x4 + cI 7)) P) (hj : ((m.1 1020 (ix x4)) &&& (cI 127)) = cI 14) (H : LC_14 I m) : Ok (fLaw_h23 (n + 1) m x4) P := by
  rw [lw_14 h1 h2 hj]
  simp only [if_pos g1, if_pos g2, if_pos g3, if_pos g4, if_pos g5, if_pos g6]
  obtain ⟨x, ex, z, ez, ev, hI⟩ := H (m.1 1020 (ix (x4 + cI 1)))
  rw [ex, bd1_some]
  rw [ez, bd2_some, if_pos ev]
  exact K _ hI
theorem ls_15 (h1 : x4 ≤ m.1 1021 0 - cI 7) (h2 : inb x4 (ix (m.1 1021 0)) = true) (g1 : inb (x4 + cI 1) (ix (m.1 1021 0)) = true) (g2 : inb (x4 + cI 2) (ix (m.1 1021 0)) = true) (g3 : inb (x4 + cI 3) (ix (m.1 1021 0)) = true) (g4 : inb (x4 + cI 4) (ix (m.1 1021 0)) = true) (g5 : inb (x4 + cI 5) (ix (m.1 1021 0)) = true) (g6 : inb (x4 + cI 6) (ix (m.1 1021 0)) = true) (K : ∀ z, I z → Ok (fLaw_h23 n z (x4 + cI 7)) P) (hj : ((m.1 1020 (ix x4)) &&& (cI 127)) = cI 15) (H : LC_15 I m) : Ok (fLaw_h23 (n + 1) m x4) P := by
  rw [lw_15 h1 h2 hj]
  simp only [if_pos g1, if_pos g2, if_pos g3, if_pos g4, if_pos g5, if_pos g6]
  obtain ⟨x, ex, z, ez, ev, hI⟩ := H (m.1 1020 (ix (x4 + cI 1))) (m.1 1020 (ix (x4 + cI 2)))
  rw [ex, bd1_some]
  rw [ez, bd2_some, if_pos ev]
  exact K _ hI
theorem ls_16 (h1 : x4 ≤ m.1 1021 0 - cI 7) (h2 : inb x4 (ix (m.1 1021 0)) = true) (g1 : inb (x4 + cI 1) (ix (m.1 1021 0)) = true) (g2 : inb (x4 + cI 2) (ix (m.1 1021 0)) = true) (g3 : inb (x4 + cI 3) (ix (m.1 1021 0)) = true) (g4 : inb (x4 + cI 4) (ix (m.1 1021 0)) = true) (g5 : inb (x4 + cI 5) (ix (m.1 1021 0)) = true) (g6 : inb (x4 + cI 6) (ix (m.1 1021 0)) = true) (K : ∀ z, I z → Ok (fLaw_h23 n z (x4 + cI 7)) P) (hj : ((m.1 1020 (ix x4)) &&& (cI 127)) = cI 16) (H : LC_16 I m) : Ok (fLaw_h23 (n + 1) m x4) P := by
  rw [lw_16 h1 h2 hj]
  simp only [if_pos g1, if_pos g2, if_pos g3, if_pos g4, if_pos g5, if_pos g6]
  obtain ⟨x, ex, ⟨e0, e1⟩, z, ez, ev, hI⟩ := H (m.1 1020 (ix (x4 + cI 1)))
  rw [ex, bd2_some, e1, e0]
  simp only [if_pos g1, if_pos g2, if_pos g3, if_pos g4, if_pos g5, if_pos g6]
  rw [ez, bd2_some, if_pos ev]
  exact K _ hI
theorem ls_17 (h1 : x4 ≤ m.1 1021 0 - cI 7) (h2 : inb x4 (ix (m.1 1021 0)) = true) (g1 : inb (x4 + cI 1) (ix (m.1 1021 0)) = true) (g2 : inb (x4 + cI 2) (ix (m.1 1021 0)) = true) (g3 : inb (x4 + cI 3) (ix (m.1 1021 0)) = true) (g4 : inb (x4 + cI 4) (ix (m.1 1021 0)) = true) (g5 : inb (x4 + cI 5) (ix (m.1 1021 0)) = true) (g6 : inb (x4 + cI 6) (ix (m.1 1021 0)) = true) (K : ∀ z, I z → Ok (fLaw_h23 n z (x4 + cI 7)) P) (hj : ((m.1 1020 (ix x4)) &&& (cI 127)) = cI 17) (H : LC_17 I m) : Ok (fLaw_h23 (n + 1) m x4) P := by
  rw [lw_17 h1 h2 hj]
  obtain ⟨x, ex, z, ez, ev, hI⟩ := H
  rw [ex, bd1_some]
  rw [ez, bd2_some, if_pos ev]
  exact K _ hI
theorem ls_18 (h1 : x4 ≤ m.1 1021 0 - cI 7) (h2 : inb x4 (ix (m.1 1021 0)) = true) (g1 : inb (x4 + cI 1) (ix (m.1 1021 0)) = true) (g2 : inb (x4 + cI 2) (ix (m.1 1021 0)) = true) (g3 : inb (x4 + cI 3) (ix (m.1 1021 0)) = true) (g4 : inb (x4 + cI 4) (ix (m.1 1021 0)) = true) (g5 : inb (x4 + cI 5) (ix (m.1 1021 0)) = true) (g6 : inb (x4 + cI 6) (ix (m.1 1021 0)) = true) (K : ∀ z, I z → Ok (fLaw_h23 n z (x4 + cI 7)) P) (hj : ((m.1 1020 (ix x4)) &&& (cI 127)) = cI 18) (H : LC_18 I m) : Ok (fLaw_h23 (n + 1) m x4) P := by
  rw [lw_18 h1 h2 hj]
  simp only [if_pos g1, if_pos g2, if_pos g3, if_pos g4, if_pos g5, if_pos g6]
  obtain ⟨x, ex, z, ez, ev, hI⟩ := H (m.1 1020 (ix (x4 + cI 1))) (m.1 1020 (ix (x4 + cI 2)))
  rw [ex, bd1_some]
  rw [ez, bd2_some, if_pos ev]
  exact K _ hI
theorem ls_19 (h1 : x4 ≤ m.1 1021 0 - cI 7) (h2 : inb x4 (ix (m.1 1021 0)) = true) (g1 : inb (x4 + cI 1) (ix (m.1 1021 0)) = true) (g2 : inb (x4 + cI 2) (ix (m.1 1021 0)) = true) (g3 : inb (x4 + cI 3) (ix (m.1 1021 0)) = true) (g4 : inb (x4 + cI 4) (ix (m.1 1021 0)) = true) (g5 : inb (x4 + cI 5) (ix (m.1 1021 0)) = true) (g6 : inb (x4 + cI 6) (ix (m.1 1021 0)) = true) (K : ∀ z, I z → Ok (fLaw_h23 n z (x4 + cI 7)) P) (hj : ((m.1 1020 (ix x4)) &&& (cI 127)) = cI 19) (H : LC_19 I m) : Ok (fLaw_h23 (n + 1) m x4) P := by
  rw [lw_19 h1 h2 hj]
  simp only [if_pos g1, if_pos g2, if_pos g3, if_pos g4, if_pos g5, if_pos g6]
  obtain ⟨x, ex, z, ez, ev, hI⟩ := H (m.1 1020 (ix (x4 + cI 1))) (m.1 1020 (ix (x4 + cI 2))) (m.1 1020 (ix (x4 + cI 3)))
  rw [ex, bd1_some]
  rw [ez, bd2_some, if_pos ev]
  exact K _ hI
theorem ls_20 (h1 : x4 ≤ m.1 1021 0 - cI 7) (h2 : inb x4 (ix (m.1 1021 0)) = true) (g1 : inb (x4 + cI 1) (ix (m.1 1021 0)) = true) (g2 : inb (x4 + cI 2) (ix (m.1 1021 0)) = true) (g3 : inb (x4 + cI 3) (ix (m.1 1021 0)) = true) (g4 : inb (x4 + cI 4) (ix (m.1 1021 0)) = true) (g5 : inb (x4 + cI 5) (ix (m.1 1021 0)) = true) (g6 : inb (x4 + cI 6) (ix (m.1 1021 0)) = true) (K : ∀ z, I z → Ok (fLaw_h23 n z (x4 + cI 7)) P) (hj : ((m.1 1020 (ix x4)) &&& (cI 127)) = cI 20) (H : LC_20 I m) : Ok (fLaw_h23 (n + 1) m x4) P := by
  rw [lw_20 h1 h2 hj]
  simp only [if_pos g1, if_pos g2, if_pos g3, if_pos g4, if_pos g5, if_pos g6]
  obtain ⟨x, ex, ⟨e0, e1⟩, z, ez, ev, hI⟩ := H (m.1 1020 (ix (x4 + cI 1))) (m.1 1020 (ix (x4 + cI 2))) (m.1 1020 (ix (x4 + cI 3))) (m.1 1020 (ix (x4 + cI 4))) (m.1 1020 (ix (x4 + cI 5))) (m.1 1020 (ix (x4 + cI 6)))
  rw [ex, bd2_some, e1, e0]
  simp only [if_pos g1, if_pos g2, if_pos g3, if_pos g4, if_pos g5, if_pos g6]
  rw [ez, bd2_some, if_pos ev]
  exact K _ hI
theorem ls_21 (h1 : x4 ≤ m.1 1021 0 - cI 7) (h2 : inb x4 (ix (m.1 1021 0)) = true) (g1 : inb (x4 + cI 1) (ix (m.1 1021 0)) = true) (g2 : inb (x4 + cI 2) (ix (m.1 1021 0)) = true) (g3 : inb (x4 + cI 3) (ix (m.1 1021 0)) = true) (g4 : inb (x4 + cI 4) (ix (m.1 1021 0)) = true) (g5 : inb (x4 + cI 5) (ix (m.1 1021 0)) = true) (g6 : inb (x4 + cI 6) (ix (m.1 1021 0)) = true) (K : ∀ z, I z → Ok (fLaw_h23 n z (x4 + cI 7)) P) (hj : ((m.1 1020 (ix x4)) &&& (cI 127)) = cI 21) (H : LC_21 I m) : Ok (fLaw_h23 (n + 1) m x4) P := by
  rw [lw_21 h1 h2 hj]
  simp only [if_pos g1, if_pos g2, if_pos g3, if_pos g4, if_pos g5, if_pos g6]
  obtain ⟨x, ex, ⟨e0, e1⟩, z, ez, ev, hI⟩ := H (m.1 1020 (ix (x4 + cI 1))) (m.1 1020 (ix (x4 + cI 2)))
  rw [ex, bd2_some, e1, e0]
  simp only [if_pos g1, if_pos g2, if_pos g3, if_pos g4, if_pos g5, if_pos g6]
  rw [ez, bd2_some, if_pos ev]
  exact K _ hI
theorem ls_22 (h1 : x4 ≤ m.1 1021 0 - cI 7) (h2 : inb x4 (ix (m.1 1021 0)) = true) (g1 : inb (x4 + cI 1) (ix (m.1 1021 0)) = true) (g2 : inb (x4 + cI 2) (ix (m.1 1021 0)) = true) (g3 : inb (x4 + cI 3) (ix (m.1 1021 0)) = true) (g4 : inb (x4 + cI 4) (ix (m.1 1021 0)) = true) (g5 : inb (x4 + cI 5) (ix (m.1 1021 0)) = true) (g6 : inb (x4 + cI 6) (ix (m.1 1021 0)) = true) (K : ∀ z, I z → Ok (fLaw_h23 n z (x4 + cI 7)) P) (hj : ((m.1 1020 (ix x4)) &&& (cI 127)) = cI 22) (H : LC_22 I m) : Ok (fLaw_h23 (n + 1) m x4) P := by
  rw [lw_22 h1 h2 hj]
  simp only [if_pos g1, if_pos g2, if_pos g3, if_pos g4, if_pos g5, if_pos g6]
  obtain ⟨x, ex, ⟨e0, e1⟩, z, ez, ev, hI⟩ := H (m.1 1020 (ix (x4 + cI 1)))
  rw [ex, bd2_some, e1, e0]
  simp only [if_pos g1, if_pos g2, if_pos g3, if_pos g4, if_pos g5, if_pos g6]
  rw [ez, bd2_some, if_pos ev]
  exact K _ hI
theorem ls_23 (h1 : x4 ≤ m.1 1021 0 - cI 7) (h2 : inb x4 (ix (m.1 1021 0)) = true) (g1 : inb (x4 + cI 1) (ix (m.1 1021 0)) = true) (g2 : inb (x4 + cI 2) (ix (m.1 1021 0)) = true) (g3 : inb (x4 + cI 3) (ix (m.1 1021 0)) = true) (g4 : inb (x4 + cI 4) (ix (m.1 1021 0)) = true) (g5 : inb (x4 + cI 5) (ix (m.1 1021 0)) = true) (g6 : inb (x4 + cI 6) (ix (m.1 1021 0)) = true) (K : ∀ z, I z → Ok (fLaw_h23 n z (x4 + cI 7)) P) (hj : ((m.1 1020 (ix x4)) &&& (cI 127)) = cI 23) (H : LC_23 I m) : Ok (fLaw_h23 (n + 1) m x4) P := by
  rw [lw_23 h1 h2 hj]
  simp only [if_pos g1, if_pos g2, if_pos g3, if_pos g4, if_pos g5, if_pos g6]
  obtain ⟨x, ex, ⟨e0, e1⟩, z, ez, ev, hI⟩ := H (m.1 1020 (ix (x4 + cI 1))) (m.1 1020 (ix (x4 + cI 2))) (m.1 1020 (ix (x4 + cI 3)))
  rw [ex, bd2_some, e1, e0]
  simp only [if_pos g1, if_pos g2, if_pos g3, if_pos g4, if_pos g5, if_pos g6]
  rw [ez, bd2_some, if_pos ev]
  exact K _ hI
theorem ls_24 (h1 : x4 ≤ m.1 1021 0 - cI 7) (h2 : inb x4 (ix (m.1 1021 0)) = true) (g1 : inb (x4 + cI 1) (ix (m.1 1021 0)) = true) (g2 : inb (x4 + cI 2) (ix (m.1 1021 0)) = true) (g3 : inb (x4 + cI 3) (ix (m.1 1021 0)) = true) (g4 : inb (x4 + cI 4) (ix (m.1 1021 0)) = true) (g5 : inb (x4 + cI 5) (ix (m.1 1021 0)) = true) (g6 : inb (x4 + cI 6) (ix (m.1 1021 0)) = true) (K : ∀ z, I z → Ok (fLaw_h23 n z (x4 + cI 7)) P) (hj : ((m.1 1020 (ix x4)) &&& (cI 127)) = cI 24) (H : LC_24 I m) : Ok (fLaw_h23 (n + 1) m x4) P := by
  rw [lw_24 h1 h2 hj]
  simp only [if_pos g1, if_pos g2, if_pos g3, if_pos g4, if_pos g5, if_pos g6]
  obtain ⟨x, ex, ⟨e0, e1⟩, z, ez, ev, hI⟩ := H (m.1 1020 (ix (x4 + cI 1))) (m.1 1020 (ix (x4 + cI 2)))
  rw [ex, bd2_some, e1, e0]
  simp only [if_pos g1, if_pos g2, if_pos g3, if_pos g4, if_pos g5, if_pos g6]
  rw [ez, bd2_some, if_pos ev]
  exact K _ hI
theorem ls_25 (h1 : x4 ≤ m.1 1021 0 - cI 7) (h2 : inb x4 (ix (m.1 1021 0)) = true) (g1 : inb (x4 + cI 1) (ix (m.1 1021 0)) = true) (g2 : inb (x4 + cI 2) (ix (m.1 1021 0)) = true) (g3 : inb (x4 + cI 3) (ix (m.1 1021 0)) = true) (g4 : inb (x4 + cI 4) (ix (m.1 1021 0)) = true) (g5 : inb (x4 + cI 5) (ix (m.1 1021 0)) = true) (g6 : inb (x4 + cI 6) (ix (m.1 1021 0)) = true) (K : ∀ z, I z → Ok (fLaw_h23 n z (x4 + cI 7)) P) (hj : ((m.1 1020 (ix x4)) &&& (cI 127)) = cI 25) (H : LC_25 I m) : Ok (fLaw_h23 (n + 1) m x4) P := by
  rw [lw_25 h1 h2 hj]
  simp only [if_pos g1, if_pos g2, if_pos g3, if_pos g4, if_pos g5, if_pos g6]
  obtain ⟨x, ex, ⟨e0, e1⟩, z, ez, ev, hI⟩ := H (m.1 1020 (ix (x4 + cI 1))) (m.1 1020 (ix (x4 + cI 2)))
  rw [ex, bd2_some, e1, e0]
  simp only [if_pos g1, if_pos g2, if_pos g3, if_pos g4, if_pos g5, if_pos g6]
  rw [ez, bd2_some, if_pos ev]
  exact K _ hI
theorem ls_26 (h1 : x4 ≤ m.1 1021 0 - cI 7) (h2 : inb x4 (ix (m.1 1021 0)) = true) (g1 : inb (x4 + cI 1) (ix (m.1 1021 0)) = true) (g2 : inb (x4 + cI 2) (ix (m.1 1021 0)) = true) (g3 : inb (x4 + cI 3) (ix (m.1 1021 0)) = true) (g4 : inb (x4 + cI 4) (ix (m.1 1021 0)) = true) (g5 : inb (x4 + cI 5) (ix (m.1 1021 0)) = true) (g6 : inb (x4 + cI 6) (ix (m.1 1021 0)) = true) (K : ∀ z, I z → Ok (fLaw_h23 n z (x4 + cI 7)) P) (hj : ((m.1 1020 (ix x4)) &&& (cI 127)) = cI 26) (H : LC_26 I m) : Ok (fLaw_h23 (n + 1) m x4) P := by
  rw [lw_26 h1 h2 hj]
  simp only [if_pos g1, if_pos g2, if_pos g3, if_pos g4, if_pos g5, if_pos g6]
  obtain ⟨x, ex, ⟨e0, e1⟩, z, ez, ev, hI⟩ := H (m.1 1020 (ix (x4 + cI 1))) (m.1 1020 (ix (x4 + cI 2)))
  rw [ex, bd2_some, e1, e0]
  simp only [if_pos g1, if_pos g2, if_pos g3, if_pos g4, if_pos g5, if_pos g6]
  rw [ez, bd2_some, if_pos ev]
  exact K _ hI
theorem ls_27 (h1 : x4 ≤ m.1 1021 0 - cI 7) (h2 : inb x4 (ix (m.1 1021 0)) = true) (g1 : inb (x4 + cI 1) (ix (m.1 1021 0)) = true) (g2 : inb (x4 + cI 2) (ix (m.1 1021 0)) = true) (g3 : inb (x4 + cI 3) (ix (m.1 1021 0)) = true) (g4 : inb (x4 + cI 4) (ix (m.1 1021 0)) = true) (g5 : inb (x4 + cI 5) (ix (m.1 1021 0)) = true) (g6 : inb (x4 + cI 6) (ix (m.1 1021 0)) = true) (K : ∀ z, I z → Ok (fLaw_h23 n z (x4 + cI 7)) P) (hj : ((m.1 1020 (ix x4)) &&& (cI 127)) = cI 27) (H : LC_27 I m) : Ok (fLaw_h23 (n + 1) m x4) P := by
  rw [lw_27 h1 h2 hj]
  obtain ⟨x, ex, ⟨e0, e1⟩, z, ez, ev, hI⟩ := H
  rw [ex, bd2_some]
  rw [ez, bd2_some, if_pos ev]
  exact K _ hI
theorem ls_28 (h1 : x4 ≤ m.1 1021 0 - cI 7) (h2 : inb x4 (ix (m.1 1021 0)) = true) (g1 : inb (x4 + cI 1) (ix (m.1 1021 0)) = true) (g2 : inb (x4 + cI 2) (ix (m.1 1021 0)) = true) (g3 : inb (x4 + cI 3) (ix (m.1 1021 0)) = true) (g4 : inb (x4 + cI 4) (ix (m.1 1021 0)) = true) (g5 : inb (x4 + cI 5) (ix (m.1 1021 0)) = true) (g6 : inb (x4 + cI 6) (ix (m.1 1021 0)) = true) (K : ∀ z, I z → Ok (fLaw_h23 n z (x4 + cI 7)) P) (hj : ((m.1 1020 (ix x4)) &&& (cI 127)) = cI 28) (H : LC_28 I m) : Ok (fLaw_h23 (n + 1) m x4) P := by
  rw [lw_28 h1 h2 hj]
  obtain ⟨x, ex, z, ez, ev, hI⟩ := H
  rw [ex, bd1_some]
  rw [ez, bd2_some, if_pos ev]
  exact K _ hI
theorem ls_29 (h1 : x4 ≤ m.1 1021 0 - cI 7) (h2 : inb x4 (ix (m.1 1021 0)) = true) (g1 : inb (x4 + cI 1) (ix (m.1 1021 0)) = true) (g2 : inb (x4 + cI 2) (ix (m.1 1021 0)) = true) (g3 : inb (x4 + cI 3) (ix (m.1 1021 0)) = true) (g4 : inb (x4 + cI 4) (ix (m.1 1021 0)) = true) (g5 : inb (x4 + cI 5) (ix (m.1 1021 0)) = true) (g6 : inb (x4 + cI 6) (ix (m.1 1021 0)) = true) (K : ∀ z, I z → Ok (fLaw_h23 n z (x4 + cI 7)) P) (hj : ((m.1 1020 (ix x4)) &&& (cI 127)) = cI 29) (H : LC_29 I m) : Ok (fLaw_h23 (n + 1) m x4) P := by
  rw [lw_29 h1 h2 hj]
  simp only [if_pos g1, if_pos g2, if_pos g3, if_pos g4, if_pos g5, if_pos g6]
  obtain ⟨x, ex, ⟨e0, e1⟩, z, ez, ev, hI⟩ := H (m.1 1020 (ix (x4 + cI 1))) (m.1 1020 (ix (x4 + cI 2))) (m.1 1020 (ix (x4 + cI 3))) (m.1 1020 (ix (x4 + cI 4)))
  rw [ex, bd2_some, e1, e0]
  simp only [if_pos g1, if_pos g2, if_pos g3, if_pos g4, if_pos g5, if_pos g6]
  rw [ez, bd2_some, if_pos ev]
  exact K _ hI
theorem ls_30 (h1 : x4 ≤ m.1 1021 0 - cI 7) (h2 : inb x4 (ix (m.1 1021 0)) = true) (g1 : inb (x4 + cI 1) (ix (m.1 1021 0)) = true) (g2 : inb (x4 + cI 2) (ix (m.1 1021 0)) = true) (g3 : inb (x4 + cI 3) (ix (m.1 1021 0)) = true) (g4 : inb (x4 + cI 4) (ix (m.1 1021 0)) = true) (g5 : inb (x4 + cI 5) (ix (m.1 1021 0)) = true) (g6 : inb (x4 + cI 6) (ix (m.1 1021 0)) = true) (K : ∀ z, I z → Ok (fLaw_h23 n z (x4 + cI 7)) P) (hj : ((m.1 1020 (ix x4)) &&& (cI 127)) = cI 30) (H : LC_30 I m) : Ok (fLaw_h23 (n + 1) m x4) P := by
  rw [lw_30 h1 h2 hj]
  simp only [if_pos g1, if_pos g2, if_pos g3, if_pos g4, if_pos g5, if_pos g6]
  obtain ⟨x, ex, ⟨e0, e1⟩, z, ez, ev, hI⟩ := H (m.1 1020 (ix (x4 + cI 1))) (m.1 1020 (ix (x4 + cI 2))) (m.1 1020 (ix (x4 + cI 3)))
  rw [ex, bd2_some, e1, e0]
  simp only [if_pos g1, if_pos g2, if_pos g3, if_pos g4, if_pos g5, if_pos g6]
  rw [ez, bd2_some, if_pos ev]
  exact K _ hI
theorem ls_31 (h1 : x4 ≤ m.1 1021 0 - cI 7) (h2 : inb x4 (ix (m.1 1021 0)) = true) (g1 : inb (x4 + cI 1) (ix (m.1 1021 0)) = true) (g2 : inb (x4 + cI 2) (ix (m.1 1021 0)) = true) (g3 : inb (x4 + cI 3) (ix (m.1 1021 0)) = true) (g4 : inb (x4 + cI 4) (ix (m.1 1021 0)) = true) (g5 : inb (x4 + cI 5) (ix (m.1 1021 0)) = true) (g6 : inb (x4 + cI 6) (ix (m.1 1021 0)) = true) (K : ∀ z, I z → Ok (fLaw_h23 n z (x4 + cI 7)) P) (hj : ((m.1 1020 (ix x4)) &&& (cI 127)) = cI 31) (H : LC_31 I m) : Ok (fLaw_h23 (n + 1) m x4) P := by
  rw [lw_31 h1 h2 hj]
  simp only [if_pos g1, if_pos g2, if_pos g3, if_pos g4, if_pos g5, if_pos g6]
  obtain ⟨x, ex, ⟨e0, e1⟩, z, ez, ev, hI⟩ := H (m.1 1020 (ix (x4 + cI 1))) (m.1 1020 (ix (x4 + cI 2)))
  rw [ex, bd2_some, e1, e0]
  simp only [if_pos g1, if_pos g2, if_pos g3, if_pos g4, if_pos g5, if_pos g6]
  rw [ez, bd2_some, if_pos ev]
  exact K _ hI
theorem ls_32 (h1 : x4 ≤ m.1 1021 0 - cI 7) (h2 : inb x4 (ix (m.1 1021 0)) = true) (g1 : inb (x4 + cI 1) (ix (m.1 1021 0)) = true) (g2 : inb (x4 + cI 2) (ix (m.1 1021 0)) = true) (g3 : inb (x4 + cI 3) (ix (m.1 1021 0)) = true) (g4 : inb (x4 + cI 4) (ix (m.1 1021 0)) = true) (g5 : inb (x4 + cI 5) (ix (m.1 1021 0)) = true) (g6 : inb (x4 + cI 6) (ix (m.1 1021 0)) = true) (K : ∀ z, I z → Ok (fLaw_h23 n z (x4 + cI 7)) P) (hj : ((m.1 1020 (ix x4)) &&& (cI 127)) = cI 32) (H : LC_32 I m) : Ok (fLaw_h23 (n + 1) m x4) P := by
  rw [lw_32 h1 h2 hj]
  simp only [if_pos g1, if_pos g2, if_pos g3, if_pos g4, if_pos g5, if_pos g6]
  obtain ⟨x, ex, ⟨e0, e1⟩, z, ez, ev, hI⟩ := H (m.1 1020 (ix (x4 + cI 1)))
  rw [ex, bd2_some, e1, e0]
  simp only [if_pos g1, if_pos g2, if_pos g3, if_pos g4, if_pos g5, if_pos g6]
  rw [ez, bd2_some, if_pos ev]
  exact K _ hI
theorem ls_33 (h1 : x4 ≤ m.1 1021 0 - cI 7) (h2 : inb x4 (ix (m.1 1021 0)) = true) (g1 : inb (x4 + cI 1) (ix (m.1 1021 0)) = true) (g2 : inb (x4 + cI 2) (ix (m.1 1021 0)) = true) (g3 : inb (x4 + cI 3) (ix (m.1 1021 0)) = true) (g4 : inb (x4 + cI 4) (ix (m.1 1021 0)) = true) (g5 : inb (x4 + cI 5) (ix (m.1 1021 0)) = true) (g6 : inb (x4 + cI 6) (ix (m.1 1021 0)) = true) (K : ∀ z, I z → Ok (fLaw_h23 n z (x4 + cI 7)) P) (hj : ((m.1 1020 (ix x4)) &&& (cI 127)) = cI 33) (H : LC_33 I m) : Ok (fLaw_h23 (n + 1) m x4) P := by
  rw [lw_33 h1 h2 hj]
  simp only [if_pos g1, if_pos g2, if_pos g3, if_pos g4, if_pos g5, if_pos g6]
  obtain ⟨x, ex, z, ez, ev, hI⟩ := H (m.1 1020 (ix (x4 + cI 1))) (m.1 1020 (ix (x4 + cI 2)))
  rw [ex, bd1_some]
  rw [ez, bd2_some, if_pos ev]
  exact K _ hI
theorem ls_34 (h1 : x4 ≤ m.1 1021 0 - cI 7) (h2 : inb x4 (ix (m.1 1021 0)) = true) (g1 : inb (x4 + cI 1) (ix (m.1 1021 0)) = true) (g2 : inb (x4 + cI 2) (ix (m.1 1021 0)) = true) (g3 : inb (x4 + cI 3) (ix (m.1 1021 0)) = true) (g4 : inb (x4 + cI 4) (ix (m.1 1021 0)) = true) (g5 : inb (x4 + cI 5) (ix (m.1 1021 0)) = true) (g6 : inb (x4 + cI 6) (ix (m.1 1021 0)) = true) (K : ∀ z, I z → Ok (fLaw_h23 n z (x4 + cI 7)) P) (hj : ((m.1 1020 (ix x4)) &&& (cI 127)) = cI 34) (H : LC_34 I m) : Ok (fLaw_h23 (n + 1) m x4) P := by
  rw [lw_34 h1 h2 hj]
  simp only [if_pos g1, if_pos g2, if_pos g3, if_pos g4, if_pos g5, if_pos g6]
  obtain ⟨x, ex, ⟨e0, e1⟩, z, ez, ev, hI⟩ := H (m.1 1020 (ix (x4 + cI 1)))
  rw [ex, bd2_some, e1, e0]
  simp only [if_pos g1, if_pos g2, if_pos g3, if_pos g4, if_pos g5, if_pos g6]
  rw [ez, bd2_some, if_pos ev]
  exact K _ hI
theorem ls_35 (h1 : x4 ≤ m.1 1021 0 - cI 7) (h2 : inb x4 (ix (m.1 1021 0)) = true) (g1 : inb (x4 + cI 1) (ix (m.1 1021 0)) = true) (g2 : inb (x4 + cI 2) (ix (m.1 1021 0)) = true) (g3 : inb (x4 + cI 3) (ix (m.1 1021 0)) = true) (g4 : inb (x4 + cI 4) (ix (m.1 1021 0)) = true) (g5 : inb (x4 + cI 5) (ix (m.1 1021 0)) = true) (g6 : inb (x4 + cI 6) (ix (m.1 1021 0)) = true) (K : ∀ z, I z → Ok (fLaw_h23 n z (x4 + cI 7)) P) (hj : ((m.1 1020 (ix x4)) &&& (cI 127)) = cI 35) (H : LC_35 I m) : Ok (fLaw_h23 (n + 1) m x4) P := by
  rw [lw_35 h1 h2 hj]
  obtain ⟨x, ex, z, ez, ev, hI⟩ := H
  rw [ex, bd1_some]
  rw [ez, bd2_some, if_pos ev]
  exact K _ hI
theorem ls_36 (h1 : x4 ≤ m.1 1021 0 - cI 7) (h2 : inb x4 (ix (m.1 1021 0)) = true) (g1 : inb (x4 + cI 1) (ix (m.1 1021 0)) = true) (g2 : inb (x4 + cI 2) (ix (m.1 1021 0)) = true) (g3 : inb (x4 + cI 3) (ix (m.1 1021 0)) = true) (g4 : inb (x4 + cI 4) (ix (m.1 1021 0)) = true) (g5 : inb (x4 + cI 5) (ix (m.1 1021 0)) = true) (g6 : inb (x4 + cI 6) (ix (m.1 1021 0)) = true) (K : ∀ z, I z → Ok (fLaw_h23 n z (x4 + cI 7)) P) (hj : ((m.1 1020 (ix x4)) &&& (cI 127)) = cI 36) (H : LC_36 I m) : Ok (fLaw_h23 (n + 1) m x4) P := by
  rw [lw_36 h1 h2 hj]
  simp only [if_pos g1, if_pos g2, if_pos g3, if_pos g4, if_pos g5, if_pos g6]
  obtain ⟨x, ex, z, ez, ev, hI⟩ := H (m.1 1020 (ix (x4 + cI 1)))
  rw [ex, bd1_some]
  rw [ez, bd2_some, if_pos ev]
  exact K _ hI
theorem ls_37 (h1 : x4 ≤ m.1 1021 0 - cI 7) (h2 : inb x4 (ix (m.1 1021 0)) = true) (g1 : inb (x4 + cI 1) (ix (m.1 1021 0)) = true) (g2 : inb (x4 + cI 2) (ix (m.1 1021 0)) = true) (g3 : inb (x4 + cI 3) (ix (m.1 1021 0)) = true) (g4 : inb (x4 + cI 4) (ix (m.1 1021 0)) = true) (g5 : inb (x4 + cI 5) (ix (m.1 1021 0)) = true) (g6 : inb (x4 + cI 6) (ix (m.1 1021 0)) = true) (K : ∀ z, I z → Ok (fLaw_h23 n z (x4 + cI 7)) P) (hj : ((m.1 1020 (ix x4)) &&& (cI 127)) = cI 37) (H : LC_37 I m) : Ok (fLaw_h23 (n + 1) m x4) P := by
  rw [lw_37 h1 h2 hj]
  simp only [if_pos g1, if_pos g2, if_pos g3, if_pos g4, if_pos g5, if_pos g6]
  obtain ⟨x, ex, z, ez, ev, hI⟩ := H (m.1 1020 (ix (x4 + cI 1))) (m.1 1020 (ix (x4 + cI 2)))
  rw [ex, bd1_some]
  rw [ez, bd2_some, if_pos ev]
  exact K _ hI
theorem ls_38 (h1 : x4 ≤ m.1 1021 0 - cI 7) (h2 : inb x4 (ix (m.1 1021 0)) = true) (g1 : inb (x4 + cI 1) (ix (m.1 1021 0)) = true) (g2 : inb (x4 + cI 2) (ix (m.1 1021 0)) = true) (g3 : inb (x4 + cI 3) (ix (m.1 1021 0)) = true) (g4 : inb (x4 + cI 4) (ix (m.1 1021 0)) = true) (g5 : inb (x4 + cI 5) (ix (m.1 1021 0)) = true) (g6 : inb (x4 + cI 6) (ix (m.1 1021 0)) = true) (K : ∀ z, I z → Ok (fLaw_h23 n z (x4 + cI 7)) P) (hj : ((m.1 1020 (ix x4)) &&& (cI 127)) = cI 38) (H : LC_38 I m) : Ok (fLaw_h23 (n + 1) m x4) P := by
  rw [lw_38 h1 h2 hj]
  simp only [if_pos g1, if_pos g2, if_pos g3, if_pos g4, if_pos g5, if_pos g6]
  obtain ⟨x, ex, ⟨e0, e1⟩, z, ez, ev, hI⟩ := H (m.1 1020 (ix (x4 + cI 1)))
  rw [ex, bd2_some, e1, e0]
  simp only [if_pos g1, if_pos g2, if_pos g3, if_pos g4, if_pos g5, if_pos g6]
  rw [ez, bd2_some, if_pos ev]
  exact K _ hI
theorem ls_39 (h1 : x4 ≤ m.1 1021 0 - cI 7) (h2 : inb x4 (ix (m.1 1021 0)) = true) (g1 : inb (x4 + cI 1) (ix (m.1 1021 0)) = true) (g2 : inb (x4 + cI 2) (ix (m.1 1021 0)) = true) (g3 : inb (x4 + cI 3) (ix (m.1 1021 0)) = true) (g4 : inb (x4 + cI 4) (ix (m.1 1021 0)) = true) (g5 : inb (x4 + cI 5) (ix (m.1 1021 0)) = true) (g6 : inb (x4 + cI 6) (ix (m.1 1021 0)) = true) (K : ∀ z, I z → Ok (fLaw_h23 n z (x4 + cI 7)) P) (hj : ((m.1 1020 (ix x4)) &&& (cI 127)) = cI 39) (H : LC_39 I m) : Ok (fLaw_h23 (n + 1) m x4) P := by
  rw [lw_39 h1 h2 hj]
  simp only [if_pos g1, if_pos g2, if_pos g3, if_pos g4, if_pos g5, if_pos g6]
  obtain ⟨x, ex, ⟨e0, e1⟩, z, ez, ev, hI⟩ := H (m.1 1020 (ix (x4 + cI 1))) (m.1 1020 (ix (x4 + cI 2))) (m.1 1020 (ix (x4 + cI 3))) (m.1 1020 (ix (x4 + cI 4))) (m.1 1020 (ix (x4 + cI 5)))
  rw [ex, bd2_some, e1, e0]
  simp only [if_pos g1, if_pos g2, if_pos g3, if_pos g4, if_pos g5, if_pos g6]
  rw [ez, bd2_some, if_pos ev]
  exact K _ hI
theorem ls_40 (h1 : x4 ≤ m.1 1021 0 - cI 7) (h2 : inb x4 (ix (m.1 1021 0)) = true) (g1 : inb (x4 + cI 1) (ix (m.1 1021 0)) = true) (g2 : inb (x4 + cI 2) (ix (m.1 1021 0)) = true) (g3 : inb (x4 + cI 3) (ix (m.1 1021 0)) = true) (g4 : inb (x4 + cI 4) (ix (m.1 1021 0)) = true) (g5 : inb (x4 + cI 5) (ix (m.1 1021 0)) = true) (g6 : inb (x4 + cI 6) (ix (m.1 1021 0)) = true) (K : ∀ z, I z → Ok (fLaw_h23 n z (x4 + cI 7)) P) (hj : ((m.1 1020 (ix x4)) &&& (cI 127)) = cI 40) (H : LC_40 I m) : Ok (fLaw_h23 (n + 1) m x4) P := by
  rw [lw_40 h1 h2 hj]
  simp only [if_pos g1, if_pos g2, if_pos g3, if_pos g4, if_pos g5, if_pos g6]
  obtain ⟨x, ex, ⟨e0, e1⟩, z, ez, ev, hI⟩ := H (m.1 1020 (ix (x4 + cI 1))) (m.1 1020 (ix (x4 + cI 2)))
  rw [ex, bd2_some, e1, e0]
  simp only [if_pos g1, if_pos g2, if_pos g3, if_pos g4, if_pos g5, if_pos g6]
  rw [ez, bd2_some, if_pos ev]
  exact K _ hI
theorem ls_41 (h1 : x4 ≤ m.1 1021 0 - cI 7) (h2 : inb x4 (ix (m.1 1021 0)) = true) (g1 : inb (x4 + cI 1) (ix (m.1 1021 0)) = true) (g2 : inb (x4 + cI 2) (ix (m.1 1021 0)) = true) (g3 : inb (x4 + cI 3) (ix (m.1 1021 0)) = true) (g4 : inb (x4 + cI 4) (ix (m.1 1021 0)) = true) (g5 : inb (x4 + cI 5) (ix (m.1 1021 0)) = true) (g6 : inb (x4 + cI 6) (ix (m.1 1021 0)) = true) (K : ∀ z, I z → Ok (fLaw_h23 n z (x4 + cI 7)) P) (hj : ((m.1 1020 (ix x4)) &&& (cI 127)) = cI 41) (H : LC_41 I m) : Ok (fLaw_h23 (n + 1) m x4) P := by
  rw [lw_41 h1 h2 hj]
  simp only [if_pos g1, if_pos g2, if_pos g3, if_pos g4, if_pos g5, if_pos g6]
  obtain ⟨x, ex, ⟨e0, e1⟩, z, ez, ev, hI⟩ := H (m.1 1020 (ix (x4 + cI 1))) (m.1 1020 (ix (x4 + cI 2)))
  rw [ex, bd2_some, e1, e0]
  simp only [if_pos g1, if_pos g2, if_pos g3, if_pos g4, if_pos g5, if_pos g6]
  rw [ez, bd2_some, if_pos ev]
  exact K _ hI
theorem ls_42 (h1 : x4 ≤ m.1 1021 0 - cI 7) (h2 : inb x4 (ix (m.1 1021 0)) = true) (g1 : inb (x4 + cI 1) (ix (m.1 1021 0)) = true) (g2 : inb (x4 + cI 2) (ix (m.1 1021 0)) = true) (g3 : inb (x4 + cI 3) (ix (m.1 1021 0)) = true) (g4 : inb (x4 + cI 4) (ix (m.1 1021 0)) = true) (g5 : inb (x4 + cI 5) (ix (m.1 1021 0)) = true) (g6 : inb (x4 + cI 6) (ix (m.1 1021 0)) = true) (K : ∀ z, I z → Ok (fLaw_h23 n z (x4 + cI 7)) P) (hj : ((m.1 1020 (ix x4)) &&& (cI 127)) = cI 42) (H : LC_42 I m) : Ok (fLaw_h23 (n + 1) m x4) P := by
  rw [lw_42 h1 h2 hj]
  simp only [if_pos g1, if_pos g2, if_pos g3, if_pos g4, if_pos g5, if_pos g6]
  obtain ⟨x, ex, ⟨e0, e1⟩, z, ez, ev, hI⟩ := H (m.1 1020 (ix (x4 + cI 1))) (m.1 1020 (ix (x4 + cI 2)))
  rw [ex, bd2_some, e1, e0]
  simp only [if_pos g1, if_pos g2, if_pos g3, if_pos g4, if_pos g5, if_pos g6]
  rw [ez, bd2_some, if_pos ev]
  exact K _ hI
theorem ls_43 (h1 : x4 ≤ m.1 1021 0 - cI 7) (h2 : inb x4 (ix (m.1 1021 0)) = true) (g1 : inb (x4 + cI 1) (ix (m.1 1021 0)) = true) (g2 : inb (x4 + cI 2) (ix (m.1 1021 0)) = true) (g3 : inb (x4 + cI 3) (ix (m.1 1021 0)) = true) (g4 : inb (x4 + cI 4) (ix (m.1 1021 0)) = true) (g5 : inb (x4 + cI 5) (ix (m.1 1021 0)) = true) (g6 : inb (x4 + cI 6) (ix (m.1 1021 0)) = true) (K : ∀ z, I z → Ok (fLaw_h23 n z (x4 + cI 7)) P) (hj : ((m.1 1020 (ix x4)) &&& (cI 127)) = cI 43) (H : LC_43 I m) : Ok (fLaw_h23 (n + 1) m x4) P := by
  rw [lw_43 h1 h2 hj]
  simp only [if_pos g1, if_pos g2, if_pos g3, if_pos g4, if_pos g5, if_pos g6]
  obtain ⟨x, ex, ⟨e0, e1⟩, z, ez, ev, hI⟩ := H (m.1 1020 (ix (x4 + cI 1)))
  rw [ex, bd2_some, e1, e0]
  simp only [if_pos g1, if_pos g2, if_pos g3, if_pos g4, if_pos g5, if_pos g6]
  rw [ez, bd2_some, if_pos ev]
  exact K _ hI
theorem ls_44 (h1 : x4 ≤ m.1 1021 0 - cI 7) (h2 : inb x4 (ix (m.1 1021 0)) = true) (g1 : inb (x4 + cI 1) (ix (m.1 1021 0)) = true) (g2 : inb (x4 + cI 2) (ix (m.1 1021 0)) = true) (g3 : inb (x4 + cI 3) (ix (m.1 1021 0)) = true) (g4 : inb (x4 + cI 4) (ix (m.1 1021 0)) = true) (g5 : inb (x4 + cI 5) (ix (m.1 1021 0)) = true) (g6 : inb (x4 + cI 6) (ix (m.1 1021 0)) = true) (K : ∀ z, I z → Ok (fLaw_h23 n z (x4 + cI 7)) P) (hj : ((m.1 1020 (ix x4)) &&& (cI 127)) = cI 44) (H : LC_44 I m) : Ok (fLaw_h23 (n + 1) m x4) P := by
  rw [lw_44 h1 h2 hj]
  simp only [if_pos g1, if_pos g2, if_pos g3, if_pos g4, if_pos g5, if_pos g6]
  obtain ⟨x, ex, ⟨e0, e1⟩, z, ez, ev, hI⟩ := H (m.1 1020 (ix (x4 + cI 1)))
  rw [ex, bd2_some, e1, e0]
  simp only [if_pos g1, if_pos g2, if_pos g3, if_pos g4, if_pos g5, if_pos g6]
  rw [ez, bd2_some, if_pos ev]
  exact K _ hI
theorem ls_45 (h1 : x4 ≤ m.1 1021 0 - cI 7) (h2 : inb x4 (ix (m.1 1021 0)) = true) (g1 : inb (x4 + cI 1) (ix (m.1 1021 0)) = true) (g2 : inb (x4 + cI 2) (ix (m.1 1021 0)) = true) (g3 : inb (x4 + cI 3) (ix (m.1 1021 0)) = true) (g4 : inb (x4 + cI 4) (ix (m.1 1021 0)) = true) (g5 : inb (x4 + cI 5) (ix (m.1 1021 0)) = true) (g6 : inb (x4 + cI 6) (ix (m.1 1021 0)) = true) (K : ∀ z, I z → Ok (fLaw_h23 n z (x4 + cI 7)) P) (hj : ((m.1 1020 (ix x4)) &&& (cI 127)) = cI 45) (H : LC_45 I m) : Ok (fLaw_h23 (n + 1) m x4) P := by
  rw [lw_45 h1 h2 hj]
  simp only [if_pos g1, if_pos g2, if_pos g3, if_pos g4, if_pos g5, if_pos g6]
  obtain ⟨x, ex, z, ez, ev, hI⟩ := H (m.1 1020 (ix (x4 + cI 1))) (m.1 1020 (ix (x4 + cI 2)))
  rw [ex, bd1_some]
  rw [ez, bd2_some, if_pos ev]
  exact K _ hI
theorem ls_46 (h1 : x4 ≤ m.1 1021 0 - cI 7) (h2 : inb x4 (ix (m.1 1021 0)) = true) (g1 : inb (x4 + cI 1) (ix (m.1 1021 0)) = true) (g2 : inb (x4 + cI 2) (ix (m.1 1021 0)) = true) (g3 : inb (x4 + cI 3) (ix (m.1 1021 0)) = true) (g4 : inb (x4 + cI 4) (ix (m.1 1021 0)) = true) (g5 : inb (x4 + cI 5) (ix (m.1 1021 0)) = true) (g6 : inb (x4 + cI 6) (ix (m.1 1021 0)) = true) (K : ∀ z, I z → Ok (fLaw_h23 n z (x4 + cI 7)) P) (hj : ((m.1 1020 (ix x4)) &&& (cI 127)) = cI 46) (H : LC_46 I m) : Ok (fLaw_h23 (n + 1) m x4) P := by
  rw [lw_46 h1 h2 hj]
  simp only [if_pos g1, if_pos g2, if_pos g3, if_pos g4, if_pos g5, if_pos g6]
  obtain ⟨x, ex, ⟨e0, e1⟩, z, ez, ev, hI⟩ := H (m.1 1020 (ix (x4 + cI 1))) (m.1 1020 (ix (x4 + cI 2))) (m.1 1020 (ix (x4 + cI 3)))
  rw [ex, bd2_some, e1, e0]
  simp only [if_pos g1, if_pos g2, if_pos g3, if_pos g4, if_pos g5, if_pos g6]
  rw [ez, bd2_some, if_pos ev]
  exact K _ hI
theorem ls_47 (h1 : x4 ≤ m.1 1021 0 - cI 7) (h2 : inb x4 (ix (m.1 1021 0)) = true) (g1 : inb (x4 + cI 1) (ix (m.1 1021 0)) = true) (g2 : inb (x4 + cI 2) (ix (m.1 1021 0)) = true) (g3 : inb (x4 + cI 3) (ix (m.1 1021 0)) = true) (g4 : inb (x4 + cI 4) (ix (m.1 1021 0)) = true) (g5 : inb (x4 + cI 5) (ix (m.1 1021 0)) = true) (g6 : inb (x4 + cI 6) (ix (m.1 1021 0)) = true) (K : ∀ z, I z → Ok (fLaw_h23 n z (x4 + cI 7)) P) (hj : ((m.1 1020 (ix x4)) &&& (cI 127)) = cI 47) (H : LC_47 I m) : Ok (fLaw_h23 (n + 1) m x4) P := by
  rw [lw_47 h1 h2 hj]
  simp only [if_pos g1, if_pos g2, if_pos g3, if_pos g4, if_pos g5, if_pos g6]
  obtain ⟨x, ex, ⟨e0, e1⟩, z, ez, ev, hI⟩ := H (m.1 1020 (ix (x4 + cI 1))) (m.1 1020 (ix (x4 + cI 2))) (m.1 1020 (ix (x4 + cI 3))) (m.1 1020 (ix (x4 + cI 4)))
  rw [ex, bd2_some, e1, e0]
  simp only [if_pos g1, if_pos g2, if_pos g3, if_pos g4, if_pos g5, if_pos g6]
  rw [ez, bd2_some, if_pos ev]
  exact K _ hI
theorem ls_48 (h1 : x4 ≤ m.1 1021 0 - cI 7) (h2 : inb x4 (ix (m.1 1021 0)) = true) (g1 : inb (x4 + cI 1) (ix (m.1 1021 0)) = true) (g2 : inb (x4 + cI 2) (ix (m.1 1021 0)) = true) (g3 : inb (x4 + cI 3) (ix (m.1 1021 0)) = true) (g4 : inb (x4 + cI 4) (ix (m.1 1021 0)) = true) (g5 : inb (x4 + cI 5) (ix (m.1 1021 0)) = true) (g6 : inb (x4 + cI 6) (ix (m.1 1021 0)) = true) (K : ∀ z, I z → Ok (fLaw_h23 n z (x4 + cI 7)) P) (hj : ((m.1 1020 (ix x4)) &&& (cI 127)) = cI 48) (H : LC_48 I m) : Ok (fLaw_h23 (n + 1) m x4) P := by
  rw [lw_48 h1 h2 hj]
  simp only [if_pos g1, if_pos g2, if_pos g3, if_pos g4, if_pos g5, if_pos g6]
  obtain ⟨x, ex, ⟨e0, e1⟩, z, ez, ev, hI⟩ := H (m.1 1020 (ix (x4 + cI 1)))
  rw [ex, bd2_some, e1, e0]
  simp only [if_pos g1, if_pos g2, if_pos g3, if_pos g4, if_pos g5, if_pos g6]
  rw [ez, bd2_some, if_pos ev]
  exact K _ hI
theorem ls_49 (h1 : x4 ≤ m.1 1021 0 - cI 7) (h2 : inb x4 (ix (m.1 1021 0)) = true) (g1 : inb (x4 + cI 1) (ix (m.1 1021 0)) = true) (g2 : inb (x4 + cI 2) (ix (m.1 1021 0)) = true) (g3 : inb (x4 + cI 3) (ix (m.1 1021 0)) = true) (g4 : inb (x4 + cI 4) (ix (m.1 1021 0)) = true) (g5 : inb (x4 + cI 5) (ix (m.1 1021 0)) = true) (g6 : inb (x4 + cI 6) (ix (m.1 1021 0)) = true) (K : ∀ z, I z → Ok (fLaw_h23 n z (x4 + cI 7)) P) (hj : ((m.1 1020 (ix x4)) &&& (cI 127)) = cI 49) (H : LC_49 I m) : Ok (fLaw_h23 (n + 1) m x4) P := by
  rw [lw_49 h1 h2 hj]
  simp only [if_pos g1, if_pos g2, if_pos g3, if_pos g4, if_pos g5, if_pos g6]
  obtain ⟨x, ex, ⟨e0, e1⟩, z, ez, ev, hI⟩ := H (m.1 1020 (ix (x4 + cI 1)))
  rw [ex, bd2_some, e1, e0]
  simp only [if_pos g1, if_pos g2, if_pos g3, if_pos g4, if_pos g5, if_pos g6]
  rw [ez, bd2_some, if_pos ev]
  exact K _ hI
theorem ls_50 (h1 : x4 ≤ m.1 1021 0 - cI 7) (h2 : inb x4 (ix (m.1 1021 0)) = true) (g1 : inb (x4 + cI 1) (ix (m.1 1021 0)) = true) (g2 : inb (x4 + cI 2) (ix (m.1 1021 0)) = true) (g3 : inb (x4 + cI 3) (ix (m.1 1021 0)) = true) (g4 : inb (x4 + cI 4) (ix (m.1 1021 0)) = true) (g5 : inb (x4 + cI 5) (ix (m.1 1021 0)) = true) (g6 : inb (x4 + cI 6) (ix (m.1 1021 0)) = true) (K : ∀ z, I z → Ok (fLaw_h23 n z (x4 + cI 7)) P) (hj : ((m.1 1020 (ix x4)) &&& (cI 127)) = cI 50) (H : LC_50 I m) : Ok (fLaw_h23 (n + 1) m x4) P := by
  rw [lw_50 h1 h2 hj]
  simp only [if_pos g1, if_pos g2, if_pos g3, if_pos g4, if_pos g5, if_pos g6]
  obtain ⟨x, ex, ⟨e0, e1⟩, z, ez, ev, hI⟩ := H (m.1 1020 (ix (x4 + cI 1))) (m.1 1020 (ix (x4 + cI 2)))
  rw [ex, bd2_some, e1, e0]
  simp only [if_pos g1, if_pos g2, if_pos g3, if_pos g4, if_pos g5, if_pos g6]
  rw [ez, bd2_some, if_pos ev]
  exact K _ hI
theorem ls_51 (h1 : x4 ≤ m.1 1021 0 - cI 7) (h2 : inb x4 (ix (m.1 1021 0)) = true) (g1 : inb (x4 + cI 1) (ix (m.1 1021 0)) = true) (g2 : inb (x4 + cI 2) (ix (m.1 1021 0)) = true) (g3 : inb (x4 + cI 3) (ix (m.1 1021 0)) = true) (g4 : inb (x4 + cI 4) (ix (m.1 1021 0)) = true) (g5 : inb (x4 + cI 5) (ix (m.1 1021 0)) = true) (g6 : inb (x4 + cI 6) (ix (m.1 1021 0)) = true) (K : ∀ z, I z → Ok (fLaw_h23 n z (x4 + cI 7)) P) (hj : ((m.1 1020 (ix x4)) &&& (cI 127)) = cI 51) (H : LC_51 I m) : Ok (fLaw_h23 (n + 1) m x4) P := by
  rw [lw_51 h1 h2 hj]
  simp only [if_pos g1, if_pos g2, if_pos g3, if_pos g4, if_pos g5, if_pos g6]
  obtain ⟨x, ex, ⟨e0, e1⟩, z, ez, ev, hI⟩ := H (m.1 1020 (ix (x4 + cI 1))) (m.1 1020 (ix (x4 + cI 2))) (m.1 1020 (ix (x4 + cI 3))) (m.1 1020 (ix (x4 + cI 4)))
  rw [ex, bd2_some, e1, e0]
  simp only [if_pos g1, if_pos g2, if_pos g3, if_pos g4, if_pos g5, if_pos g6]
  rw [ez, bd2_some, if_pos ev]
  exact K _ hI
theorem ls_52 (h1 : x4 ≤ m.1 1021 0 - cI 7) (h2 : inb x4 (ix (m.1 1021 0)) = true) (g1 : inb (x4 + cI 1) (ix (m.1 1021 0)) = true) (g2 : inb (x4 + cI 2) (ix (m.1 1021 0)) = true) (g3 : inb (x4 + cI 3) (ix (m.1 1021 0)) = true) (g4 : inb (x4 + cI 4) (ix (m.1 1021 0)) = true) (g5 : inb (x4 + cI 5) (ix (m.1 1021 0)) = true) (g6 : inb (x4 + cI 6) (ix (m.1 1021 0)) = true) (K : ∀ z, I z → Ok (fLaw_h23 n z (x4 + cI 7)) P) (hj : ((m.1 1020 (ix x4)) &&& (cI 127)) = cI 52) (H : LC_52 I m) : Ok (fLaw_h23 (n + 1) m x4) P := by
  rw [lw_52 h1 h2 hj]
  simp only [if_pos g1, if_pos g2, if_pos g3, if_pos g4, if_pos g5, if_pos g6]
  obtain ⟨x, ex, ⟨e0, e1⟩, z, ez, ev, hI⟩ := H (m.1 1020 (ix (x4 + cI 1))) (m.1 1020 (ix (x4 + cI 2)))
  rw [ex, bd2_some, e1, e0]
  simp only [if_pos g1, if_pos g2, if_pos g3, if_pos g4, if_pos g5, if_pos g6]
  rw [ez, bd2_some, if_pos ev]
  exact K _ hI
theorem ls_53 (h1 : x4 ≤ m.1 1021 0 - cI 7) (h2 : inb x4 (ix (m.1 1021 0)) = true) (g1 : inb (x4 + cI 1) (ix (m.1 1021 0)) = true) (g2 : inb (x4 + cI 2) (ix (m.1 1021 0)) = true) (g3 : inb (x4 + cI 3) (ix (m.1 1021 0)) = true) (g4 : inb (x4 + cI 4) (ix (m.1 1021 0)) = true) (g5 : inb (x4 + cI 5) (ix (m.1 1021 0)) = true) (g6 : inb (x4 + cI 6) (ix (m.1 1021 0)) = true) (K : ∀ z, I z → Ok (fLaw_h23 n z (x4 + cI 7)) P) (hj : ((m.1 1020 (ix x4)) &&& (cI 127)) = cI 53) (H : LC_53 I m) : Ok (fLaw_h23 (n + 1) m x4) P := by
  rw [lw_53 h1 h2 hj]
  simp only [if_pos g1, if_pos g2, if_pos g3, if_pos g4, if_pos g5, if_pos g6]
  obtain ⟨x, ex, ⟨e0, e1⟩, z, ez, ev, hI⟩ := H (m.1 1020 (ix (x4 + cI 1)))
  rw [ex, bd2_some, e1, e0]
  simp only [if_pos g1, if_pos g2, if_pos g3, if_pos g4, if_pos g5, if_pos g6]
  rw [ez, bd2_some, if_pos ev]
  exact K _ hI
theorem ls_54 (h1 : x4 ≤ m.1 1021 0 - cI 7) (h2 : inb x4 (ix (m.1 1021 0)) = true) (g1 : inb (x4 + cI 1) (ix (m.1 1021 0)) = true) (g2 : inb (x4 + cI 2) (ix (m.1 1021 0)) = true) (g3 : inb (x4 + cI 3) (ix (m.1 1021 0)) = true) (g4 : inb (x4 + cI 4) (ix (m.1 1021 0)) = true) (g5 : inb (x4 + cI 5) (ix (m.1 1021 0)) = true) (g6 : inb (x4 + cI 6) (ix (m.1 1021 0)) = true) (K : ∀ z, I z → Ok (fLaw_h23 n z (x4 + cI 7)) P) (hj : ((m.1 1020 (ix x4)) &&& (cI 127)) = cI 54) (H : LC_54 I m) : Ok (fLaw_h23 (n + 1) m x4) P := by
  rw [lw_54 h1 h2 hj]
  simp only [if_pos g1, if_pos g2, if_pos g3, if_pos g4, if_pos g5, if_pos g6]
  obtain ⟨x, ex, ⟨e0, e1⟩, z, ez, ev, hI⟩ := H (m.1 1020 (ix (x4 + cI 1)))
  rw [ex, bd2_some, e1, e0]
  simp only [if_pos g1, if_pos g2, if_pos g3, if_pos g4, if_pos g5, if_pos g6]
  rw [ez, bd2_some, if_pos ev]
  exact K _ hI
theorem ls_55 (h1 : x4 ≤ m.1 1021 0 - cI 7) (h2 : inb x4 (ix (m.1 1021 0)) = true) (g1 : inb (x4 + cI 1) (ix (m.1 1021 0)) = true) (g2 : inb (x4 + cI 2) (ix (m.1 1021 0)) = true) (g3 : inb (x4 + cI 3) (ix (m.1 1021 0)) = true) (g4 : inb (x4 + cI 4) (ix (m.1 1021 0)) = true) (g5 : inb (x4 + cI 5) (ix (m.1 1021 0)) = true) (g6 : inb (x4 + cI 6) (ix (m.1 1021 0)) = true) (K : ∀ z, I z → Ok (fLaw_h23 n z (x4 + cI 7)) P) (hj : ((m.1 1020 (ix x4)) &&& (cI 127)) = cI 55) (H : LC_55 I m) : Ok (fLaw_h23 (n + 1) m x4) P := by
  rw [lw_55 h1 h2 hj]
  simp only [if_pos g1, if_pos g2, if_pos g3, if_pos g4, if_pos g5, if_pos g6]
  obtain ⟨x, ex, ⟨e0, e1⟩, z, ez, ev, hI⟩ := H (m.1 1020 (ix (x4 + cI 1))) (m.1 1020 (ix (x4 + cI 2)))
  rw [ex, bd2_some, e1, e0]
  simp only [if_pos g1, if_pos g2, if_pos g3, if_pos g4, if_pos g5, if_pos g6]
  rw [ez, bd2_some, if_pos ev]
  exact K _ hI
theorem ls_56 (h1 : x4 ≤ m.1 1021 0 - cI 7) (h2 : inb x4 (ix (m.1 1021 0)) = true) (g1 : inb (x4 + cI 1) (ix (m.1 1021 0)) = true) (g2 : inb (x4 + cI 2) (ix (m.1 1021 0)) = true) (g3 : inb (x4 + cI 3) (ix (m.1 1021 0)) = true) (g4 : inb (x4 + cI 4) (ix (m.1 1021 0)) = true) (g5 : inb (x4 + cI 5) (ix (m.1 1021 0)) = true) (g6 : inb (x4 + cI 6) (ix (m.1 1021 0)) = true) (K : ∀ z, I z → Ok (fLaw_h23 n z (x4 + cI 7)) P) (hj : ((m.1 1020 (ix x4)) &&& (cI 127)) = cI 56) (H : LC_56 I m) : Ok (fLaw_h23 (n + 1) m x4) P := by
  rw [lw_56 h1 h2 hj]
  simp only [if_pos g1, if_pos g2, if_pos g3, if_pos g4, if_pos g5, if_pos g6]
  obtain ⟨x, ex, z, ez, ev, hI⟩ := H (m.1 1020 (ix (x4 + cI 1)))
  rw [ex, bd1_some]
  rw [ez, bd2_some, if_pos ev]
  exact K _ hI
theorem ls_57 (h1 : x4 ≤ m.1 1021 0 - cI 7) (h2 : inb x4 (ix (m.1 1021 0)) = true) (g1 : inb (x4 + cI 1) (ix (m.1 1021 0)) = true) (g2 : inb (x4 + cI 2) (ix (m.1 1021 0)) = true) (g3 : inb (x4 + cI 3) (ix (m.1 1021 0)) = true) (g4 : inb (x4 + cI 4) (ix (m.1 1021 0)) = true) (g5 : inb (x4 + cI 5) (ix (m.1 1021 0)) = true) (g6 : inb (x4 + cI 6) (ix (m.1 1021 0)) = true) (K : ∀ z, I z → Ok (fLaw_h23 n z (x4 + cI 7)) P) (hj : ((m.1 1020 (ix x4)) &&& (cI 127)) = cI 57) (H : LC_57 I m) : Ok (fLaw_h23 (n + 1) m x4) P := by
  rw [lw_57 h1 h2 hj]
  simp only [if_pos g1, if_pos g2, if_pos g3, if_pos g4, if_pos g5, if_pos g6]
  obtain ⟨x, ex, z, ez, ev, hI⟩ := H (m.1 1020 (ix (x4 + cI 1))) (m.1 1020 (ix (x4 + cI 2)))
  rw [ex, bd1_some]
  rw [ez, bd2_some, if_pos ev]
  exact K _ hI
theorem ls_58 (h1 : x4 ≤ m.1 1021 0 - cI 7) (h2 : inb x4 (ix (m.1 1021 0)) = true) (g1 : inb (x4 + cI 1) (ix (m.1 1021 0)) = true) (g2 : inb (x4 + cI 2) (ix (m.1 1021 0)) = true) (g3 : inb (x4 + cI 3) (ix (m.1 1021 0)) = true) (g4 : inb (x4 + cI 4) (ix (m.1 1021 0)) = true) (g5 : inb (x4 + cI 5) (ix (m.1 1021 0)) = true) (g6 : inb (x4 + cI 6) (ix (m.1 1021 0)) = true) (K : ∀ z, I z → Ok (fLaw_h23 n z (x4 + cI 7)) P) (hj : ((m.1 1020 (ix x4)) &&& (cI 127)) = cI 58) (H : LC_58 I m) : Ok (fLaw_h23 (n + 1) m x4) P := by
  rw [lw_58 h1 h2 hj]
  obtain ⟨x, ex, ⟨e0, e1⟩, z, ez, ev, hI⟩ := H
  rw [ex, bd2_some]
  rw [ez, bd2_some, if_pos ev]
  exact K _ hI
theorem ls_59 (h1 : x4 ≤ m.1 1021 0 - cI 7) (h2 : inb x4 (ix (m.1 1021 0)) = true) (g1 : inb (x4 + cI 1) (ix (m.1 1021 0)) = true) (g2 : inb (x4 + cI 2) (ix (m.1 1021 0)) = true) (g3 : inb (x4 + cI 3) (ix (m.1 1021 0)) = true) (g4 : inb (x4 + cI 4) (ix (m.1 1021 0)) = true) (g5 : inb (x4 + cI 5) (ix (m.1 1021 0)) = true) (g6 : inb (x4 + cI 6) (ix (m.1 1021 0)) = true) (K : ∀ z, I z → Ok (fLaw_h23 n z (x4 + cI 7)) P) (hj : ((m.1 1020 (ix x4)) &&& (cI 127)) = cI 59) (H : LC_59 I m) : Ok (fLaw_h23 (n + 1) m x4) P := by
  rw [lw_59 h1 h2 hj]
  simp only [if_pos g1, if_pos g2, if_pos g3, if_pos g4, if_pos g5, if_pos g6]
  obtain ⟨x, ex, z, ez, ev, hI⟩ := H (m.1 1020 (ix (x4 + cI 1)))
  rw [ex, bd1_some]
  rw [ez, bd2_some, if_pos ev]
  exact K _ hI
theorem ls_60 (h1 : x4 ≤ m.1 1021 0 - cI 7) (h2 : inb x4 (ix (m.1 1021 0)) = true) (g1 : inb (x4 + cI 1) (ix (m.1 1021 0)) = true) (g2 : inb (x4 + cI 2) (ix (m.1 1021 0)) = true) (g3 : inb (x4 + cI 3) (ix (m.1 1021 0)) = true) (g4 : inb (x4 + cI 4) (ix (m.1 1021 0)) = true) (g5 : inb (x4 + cI 5) (ix (m.1 1021 0)) = true) (g6 : inb (x4 + cI 6) (ix (m.1 1021 0)) = true) (K : ∀ z, I z → Ok (fLaw_h23 n z (x4 + cI 7)) P) (hj : ((m.1 1020 (ix x4)) &&& (cI 127)) = cI 60) (H : LC_60 I m) : Ok (fLaw_h23 (n + 1) m x4) P := by
  rw [lw_60 h1 h2 hj]
  simp only [if_pos g1, if_pos g2, if_pos g3, if_pos g4, if_pos g5, if_pos g6]
  obtain ⟨x, ex, ⟨e0, e1⟩, z, ez, ev, hI⟩ := H (m.1 1020 (ix (x4 + cI 1)))
  rw [ex, bd2_some, e1, e0]
  simp only [if_pos g1, if_pos g2, if_pos g3, if_pos g4, if_pos g5, if_pos g6]
  rw [ez, bd2_some, if_pos ev]
  exact K _ hI
theorem ls_61 (h1 : x4 ≤ m.1 1021 0 - cI 7) (h2 : inb x4 (ix (m.1 1021 0)) = true) (g1 : inb (x4 + cI 1) (ix (m.1 1021 0)) = true) (g2 : inb (x4 + cI 2) (ix (m.1 1021 0)) = true) (g3 : inb (x4 + cI 3) (ix (m.1 1021 0)) = true) (g4 : inb (x4 + cI 4) (ix (m.1 1021 0)) = true) (g5 : inb (x4 + cI 5) (ix (m.1 1021 0)) = true) (g6 : inb (x4 + cI 6) (ix (m.1 1021 0)) = true) (K : ∀ z, I z → Ok (fLaw_h23 n z (x4 + cI 7)) P) (hj : ((m.1 1020 (ix x4)) &&& (cI 127)) = cI 61) (H : LC_61 I m) : Ok (fLaw_h23 (n + 1) m x4) P := by
  rw [lw_61 h1 h2 hj]
  simp only [if_pos g1, if_pos g2, if_pos g3, if_pos g4, if_pos g5, if_pos g6]
  obtain ⟨x, ex, ⟨e0, e1⟩, z, ez, ev, hI⟩ := H (m.1 1020 (ix (x4 + cI 1))) (m.1 1020 (ix (x4 + cI 2))) (m.1 1020 (ix (x4 + cI 3)))
  rw [ex, bd2_some, e1, e0]
  simp only [if_pos g1, if_pos g2, if_pos g3, if_pos g4, if_pos g5, if_pos g6]
  rw [ez, bd2_some, if_pos ev]
  exact K _ hI
theorem ls_62 (h1 : x4 ≤ m.1 1021 0 - cI 7) (h2 : inb x4 (ix (m.1 1021 0)) = true) (g1 : inb (x4 + cI 1) (ix (m.1 1021 0)) = true) (g2 : inb (x4 + cI 2) (ix (m.1 1021 0)) = true) (g3 : inb (x4 + cI 3) (ix (m.1 1021 0)) = true) (g4 : inb (x4 + cI 4) (ix (m.1 1021 0)) = true) (g5 : inb (x4 + cI 5) (ix (m.1 1021 0)) = true) (g6 : inb (x4 + cI 6) (ix (m.1 1021 0)) = true) (K : ∀ z, I z → Ok (fLaw_h23 n z (x4 + cI 7)) P) (hj : ((m.1 1020 (ix x4)) &&& (cI 127)) = cI 62) (H : LC_62 I m) : Ok (fLaw_h23 (n + 1) m x4) P := by
  rw [lw_62 h1 h2 hj]
  simp only [if_pos g1, if_pos g2, if_pos g3, if_pos g4, if_pos g5, if_pos g6]
  obtain ⟨x, ex, ⟨e0, e1⟩, z, ez, ev, hI⟩ := H (m.1 1020 (ix (x4 + cI 1))) (m.1 1020 (ix (x4 + cI 2))) (m.1 1020 (ix (x4 + cI 3)))
  rw [ex, bd2_some, e1, e0]
  simp only [if_pos g1, if_pos g2, if_pos g3, if_pos g4, if_pos g5, if_pos g6]
  rw [ez, bd2_some, if_pos ev]
  exact K _ hI
theorem ls_63 (h1 : x4 ≤ m.1 1021 0 - cI 7) (h2 : inb x4 (ix (m.1 1021 0)) = true) (g1 : inb (x4 + cI 1) (ix (m.1 1021 0)) = true) (g2 : inb (x4 + cI 2) (ix (m.1 1021 0)) = true) (g3 : inb (x4 + cI 3) (ix (m.1 1021 0)) = true) (g4 : inb (x4 + cI 4) (ix (m.1 1021 0)) = true) (g5 : inb (x4 + cI 5) (ix (m.1 1021 0)) = true) (g6 : inb (x4 + cI 6) (ix (m.1 1021 0)) = true) (K : ∀ z, I z → Ok (fLaw_h23 n z (x4 + cI 7)) P) (hj : ((m.1 1020 (ix x4)) &&& (cI 127)) = cI 63) (H : LC_63 I m) : Ok (fLaw_h23 (n + 1) m x4) P := by
  rw [lw_63 h1 h2 hj]
  simp only [if_pos g1, if_pos g2, if_pos g3, if_pos g4, if_pos g5, if_pos g6]
  obtain ⟨x, ex, z, ez, ev, hI⟩ := H (m.1 1020 (ix (x4 + cI 1))) (m.1 1020 (ix (x4 + cI 2)))
  rw [ex, bd1_some]
  rw [ez, bd2_some, if_pos ev]
  exact K _ hI
theorem ls_64 (h1 : x4 ≤ m.1 1021 0 - cI 7) (h2 : inb x4 (ix (m.1 1021 0)) = true) (g1 : inb (x4 + cI 1) (ix (m.1 1021 0)) = true) (g2 : inb (x4 + cI 2) (ix (m.1 1021 0)) = true) (g3 : inb (x4 + cI 3) (ix (m.1 1021 0)) = true) (g4 : inb (x4 + cI 4) (ix (m.1 1021 0)) = true) (g5 : inb (x4 + cI 5) (ix (m.1 1021 0)) = true) (g6 : inb (x4 + cI 6) (ix (m.1 1021 0)) = true) (K : ∀ z, I z → Ok (fLaw_h23 n z (x4 + cI 7)) P) (hj : ((m.1 1020 (ix x4)) &&& (cI 127)) = cI 64) (H : LC_64 I m) : Ok (fLaw_h23 (n + 1) m x4) P := by
  rw [lw_64 h1 h2 hj]
  simp only [if_pos g1, if_pos g2, if_pos g3, if_pos g4, if_pos g5, if_pos g6]
  obtain ⟨x, ex, ⟨e0, e1⟩, z, ez, ev, hI⟩ := H (m.1 1020 (ix (x4 + cI 1))) (m.1 1020 (ix (x4 + cI 2)))
  rw [ex, bd2_some, e1, e0]
  simp only [if_pos g1, if_pos g2, if_pos g3, if_pos g4, if_pos g5, if_pos g6]
  rw [ez, bd2_some, if_pos ev]
  exact K _ hI
theorem ls_65 (h1 : x4 ≤ m.1 1021 0 - cI 7) (h2 : inb x4 (ix (m.1 1021 0)) = true) (g1 : inb (x4 + cI 1) (ix (m.1 1021 0)) = true) (g2 : inb (x4 + cI 2) (ix (m.1 1021 0)) = true) (g3 : inb (x4 + cI 3) (ix (m.1 1021 0)) = true) (g4 : inb (x4 + cI 4) (ix (m.1 1021 0)) = true) (g5 : inb (x4 + cI 5) (ix (m.1 1021 0)) = true) (g6 : inb (x4 + cI 6) (ix (m.1 1021 0)) = true) (K : ∀ z, I z → Ok (fLaw_h23 n z (x4 + cI 7)) P) (hj : ((m.1 1020 (ix x4)) &&& (cI 127)) = cI 65) (H : LC_65 I m) : Ok (fLaw_h23 (n + 1) m x4) P := by
  rw [lw_65 h1 h2 hj]
  simp only [if_pos g1, if_pos g2, if_pos g3, if_pos g4, if_pos g5, if_pos g6]
  obtain ⟨x, ex, ⟨e0, e1⟩, z, ez, ev, hI⟩ := H (m.1 1020 (ix (x4 + cI 1))) (m.1 1020 (ix (x4 + cI 2)))
  rw [ex, bd2_some, e1, e0]
  simp only [if_pos g1, if_pos g2, if_pos g3, if_pos g4, if_pos g5, if_pos g6]
  rw [ez, bd2_some, if_pos ev]
  exact K _ hI
theorem ls_66 (h1 : x4 ≤ m.1 1021 0 - cI 7) (h2 : inb x4 (ix (m.1 1021 0)) = true) (g1 : inb (x4 + cI 1) (ix (m.1 1021 0)) = true) (g2 : inb (x4 + cI 2) (ix (m.1 1021 0)) = true) (g3 : inb (x4 + cI 3) (ix (m.1 1021 0)) = true) (g4 : inb (x4 + cI 4) (ix (m.1 1021 0)) = true) (g5 : inb (x4 + cI 5) (ix (m.1 1021 0)) = true) (g6 : inb (x4 + cI 6) (ix (m.1 1021 0)) = true) (K : ∀ z, I z → Ok (fLaw_h23 n z (x4 + cI 7)) P) (hj : ((m.1 1020 (ix x4)) &&& (cI 127)) = cI 66) (H : LC_66 I m) : Ok (fLaw_h23 (n + 1) m x4) P := by
  rw [lw_66 h1 h2 hj]
  simp only [if_pos g1, if_pos g2, if_pos g3, if_pos g4, if_pos g5, if_pos g6]
  obtain ⟨x, ex, z, ez, ev, hI⟩ := H (m.1 1020 (ix (x4 + cI 1))) (m.1 1020 (ix (x4 + cI 2)))
  rw [ex, bd1_some]
  rw [ez, bd2_some, if_pos ev]
  exact K _ hI
theorem ls_67 (h1 : x4 ≤ m.1 1021 0 - cI 7) (h2 : inb x4 (ix (m.1 1021 0)) = true) (g1 : inb (x4 + cI 1) (ix (m.1 1021 0)) = true) (g2 : inb (x4 + cI 2) (ix (m.1 1021 0)) = true) (g3 : inb (x4 + cI 3) (ix (m.1 1021 0)) = true) (g4 : inb (x4 + cI 4) (ix (m.1 1021 0)) = true) (g5 : inb (x4 + cI 5) (ix (m.1 1021 0)) = true) (g6 : inb (x4 + cI 6) (ix (m.1 1021 0)) = true) (K : ∀ z, I z → Ok (fLaw_h23 n z (x4 + cI 7)) P) (hj : ((m.1 1020 (ix x4)) &&& (cI 127)) = cI 67) (H : LC_67 I m) : Ok (fLaw_h23 (n + 1) m x4) P := by
  rw [lw_67 h1 h2 hj]
  simp only [if_pos g1, if_pos g2, if_pos g3, if_pos g4, if_pos g5, if_pos g6]
  obtain ⟨x, ex, ⟨e0, e1⟩, z, ez, ev, hI⟩ := H (m.1 1020 (ix (x4 + cI 1))) (m.1 1020 (ix (x4 + cI 2)))
  rw [ex, bd2_some, e1, e0]
  simp only [if_pos g1, if_pos g2, if_pos g3, if_pos g4, if_pos g5, if_pos g6]
  rw [ez, bd2_some, if_pos ev]
  exact K _ hI
theorem ls_68 (h1 : x4 ≤ m.1 1021 0 - cI 7) (h2 : inb x4 (ix (m.1 1021 0)) = true) (g1 : inb (x4 + cI 1) (ix (m.1 1021 0)) = true) (g2 : inb (x4 + cI 2) (ix (m.1 1021 0)) = true) (g3 : inb (x4 + cI 3) (ix (m.1 1021 0)) = true) (g4 : inb (x4 + cI 4) (ix (m.1 1021 0)) = true) (g5 : inb (x4 + cI 5) (ix (m.1 1021 0)) = true) (g6 : inb (x4 + cI 6) (ix (m.1 1021 0)) = true) (K : ∀ z, I z → Ok (fLaw_h23 n z (x4 + cI 7)) P) (hj : ((m.1 1020 (ix x4)) &&& (cI 127)) = cI 68) (H : LC_68 I m) : Ok (fLaw_h23 (n + 1) m x4) P := by
  rw [lw_68 h1 h2 hj]
  simp only [if_pos g1, if_pos g2, if_pos g3, if_pos g4, if_pos g5, if_pos g6]
  obtain ⟨x, ex, ⟨e0, e1⟩, z, ez, ev, hI⟩ := H (m.1 1020 (ix (x4 + cI 1))) (m.1 1020 (ix (x4 + cI 2))) (m.1 1020 (ix (x4 + cI 3))) (m.1 1020 (ix (x4 + cI 4)))
  rw [ex, bd2_some, e1, e0]
  simp only [if_pos g1, if_pos g2, if_pos g3, if_pos g4, if_pos g5, if_pos g6]
  rw [ez, bd2_some, if_pos ev]
  exact K _ hI
theorem ls_69 (h1 : x4 ≤ m.1 1021 0 - cI 7) (h2 : inb x4 (ix (m.1 1021 0)) = true) (g1 : inb (x4 + cI 1) (ix (m.1 1021 0)) = true) (g2 : inb (x4 + cI 2) (ix (m.1 1021 0)) = true) (g3 : inb (x4 + cI 3) (ix (m.1 1021 0)) = true) (g4 : inb (x4 + cI 4) (ix (m.1 1021 0)) = true) (g5 : inb (x4 + cI 5) (ix (m.1 1021 0)) = true) (g6 : inb (x4 + cI 6) (ix (m.1 1021 0)) = true) (K : ∀ z, I z → Ok (fLaw_h23 n z (x4 + cI 7)) P) (hj : ((m.1 1020 (ix x4)) &&& (cI 127)) = cI 69) (H : LC_69 I m) : Ok (fLaw_h23 (n + 1) m x4) P := by
  rw [lw_69 h1 h2 hj]
  simp only [if_pos g1, if_pos g2, if_pos g3, if_pos g4, if_pos g5, if_pos g6]
  obtain ⟨x, ex, z, ez, ev, hI⟩ := H (m.1 1020 (ix (x4 + cI 1))) (m.1 1020 (ix (x4 + cI 2))) (m.1 1020 (ix (x4 + cI 3)))
  rw [ex, bd1_some]
  rw [ez, bd2_some, if_pos ev]
  exact K _ hI
theorem ls_70 (h1 : x4 ≤ m.1 1021 0 - cI 7) (h2 : inb x4 (ix (m.1 1021 0)) = true) (g1 : inb (x4 + cI 1) (ix (m.1 1021 0)) = true) (g2 : inb (x4 + cI 2) (ix (m.1 1021 0)) = true) (g3 : inb (x4 + cI 3) (ix (m.1 1021 0)) = true) (g4 : inb (x4 + cI 4) (ix (m.1 1021 0)) = true) (g5 : inb (x4 + cI 5) (ix (m.1 1021 0)) = true) (g6 : inb (x4 + cI 6) (ix (m.1 1021 0)) = true) (K : ∀ z, I z → Ok (fLaw_h23 n z (x4 + cI 7)) P) (hj : ((m.1 1020 (ix x4)) &&& (cI 127)) = cI 70) (H : LC_70 I m) : Ok (fLaw_h23 (n + 1) m x4) P := by
  rw [lw_70 h1 h2 hj]
  simp only [if_pos g1, if_pos g2, if_pos g3, if_pos g4, if_pos g5, if_pos g6]
  by_cases h0 : m.1 1020 (ix (x4 + cI 3)) = 0
  · obtain ⟨x, ex, ⟨e0, e1⟩, z, ez, ev, hI⟩ := H (m.1 1020 (ix (x4 + cI 1))) (m.1 1020 (ix (x4 + cI 2))) (cI 0) (by decide)
    rw [if_pos h0]
    unfold fLaw_b2996
    rw [ex, bd2_some, e1, e0]
    simp only [if_pos g1, if_pos g2, if_pos g3, if_pos g4, if_pos g5, if_pos g6, if_pos h0]
    unfold fLaw_b3026
    rw [ez, bd2_some, if_pos ev]
    exact K _ hI
  · obtain ⟨x, ex, ⟨e0, e1⟩, z, ez, ev, hI⟩ := H (m.1 1020 (ix (x4 + cI 1))) (m.1 1020 (ix (x4 + cI 2))) (cI 1) (by decide)
    rw [if_neg h0]
    unfold fLaw_b2996
    rw [ex, bd2_some, e1, e0]
    simp only [if_pos g1, if_pos g2, if_pos g3, if_pos g4, if_pos g5, if_pos g6, if_neg h0]
    unfold fLaw_b3026
    rw [ez, bd2_some, if_pos ev]
    exact K _ hI
theorem ls_71 (h1 : x4 ≤ m.1 1021 0 - cI 7) (h2 : inb x4 (ix (m.1 1021 0)) = true) (g1 : inb (x4 + cI 1) (ix (m.1 1021 0)) = true) (g2 : inb (x4 + cI 2) (ix (m.1 1021 0)) = true) (g3 : inb (x4 + cI 3) (ix (m.1 1021 0)) = true) (g4 : inb (x4 + cI 4) (ix (m.1 1021 0)) = true) (g5 : inb (x4 + cI 5) (ix (m.1 1021 0)) = true) (g6 : inb (x4 + cI 6) (ix (m.1 1021 0)) = true) (K : ∀ z, I z → Ok (fLaw_h23 n z (x4 + cI 7)) P) (hj : ((m.1 1020 (ix x4)) &&& (cI 127)) = cI 71) (H : LC_71 I m) : Ok (fLaw_h23 (n + 1) m x4) P := by
  rw [lw_71 h1 h2 hj]
  simp only [if_pos g1, if_pos g2, if_pos g3, if_pos g4, if_pos g5, if_pos g6]
  obtain ⟨x, ex, z, ez, ev, hI⟩ := H (m.1 1020 (ix (x4 + cI 1))) (m.1 1020 (ix (x4 + cI 2)))
  rw [ex, bd1_some]
  rw [ez, bd2_some, if_pos ev]
  exact K _ hI
theorem ls_72 (h1 : x4 ≤ m.1 1021 0 - cI 7) (h2 : inb x4 (ix (m.1 1021 0)) = true) (g1 : inb (x4 + cI 1) (ix (m.1 1021 0)) = true) (g2 : inb (x4 + cI 2) (ix (m.1 1021 0)) = true) (g3 : inb (x4 + cI 3) (ix (m.1 1021 0)) = true) (g4 : inb (x4 + cI 4) (ix (m.1 1021 0)) = true) (g5 : inb (x4 + cI 5) (ix (m.1 1021 0)) = true) (g6 : inb (x4 + cI 6) (ix (m.1 1021 0)) = true) (K : ∀ z, I z → Ok (fLaw_h23 n z (x4 + cI 7)) P) (hj : ((m.1 1020 (ix x4)) &&& (cI 127)) = cI 72) (H : LC_72 I m) : Ok (fLaw_h23 (n + 1) m x4) P := by
  rw [lw_72 h1 h2 hj]
  simp only [if_pos g1, if_pos g2, if_pos g3, if_pos g4, if_pos g5, if_pos g6]
  obtain ⟨x, ex, ⟨e0, e1⟩, z, ez, ev, hI⟩ := H (m.1 1020 (ix (x4 + cI 1)))
  rw [ex, bd2_some, e1, e0]
  simp only [if_pos g1, if_pos g2, if_pos g3, if_pos g4, if_pos g5, if_pos g6]
  rw [ez, bd2_some, if_pos ev]
  exact K _ hI
theorem ls_73 (h1 : x4 ≤ m.1 1021 0 - cI 7) (h2 : inb x4 (ix (m.1 1021 0)) = true) (g1 : inb (x4 + cI 1) (ix (m.1 1021 0)) = true) (g2 : inb (x4 + cI 2) (ix (m.1 1021 0)) = true) (g3 : inb (x4 + cI 3) (ix (m.1 1021 0)) = true) (g4 : inb (x4 + cI 4) (ix (m.1 1021 0)) = true) (g5 : inb (x4 + cI 5) (ix (m.1 1021 0)) = true) (g6 : inb (x4 + cI 6) (ix (m.1 1021 0)) = true) (K : ∀ z, I z → Ok (fLaw_h23 n z (x4 + cI 7)) P) (hj : ((m.1 1020 (ix x4)) &&& (cI 127)) = cI 73) (H : LC_73 I m) : Ok (fLaw_h23 (n + 1) m x4) P := by
  rw [lw_73 h1 h2 hj]
  obtain ⟨x, ex, z, ez, ev, hI⟩ := H
  rw [ex, bd1_some]
  rw [ez, bd2_some, if_pos ev]
  exact K _ hI
theorem ls_74 (h1 : x4 ≤ m.1 1021 0 - cI 7) (h2 : inb x4 (ix (m.1 1021 0)) = true) (g1 : inb (x4 + cI 1) (ix (m.1 1021 0)) = true) (g2 : inb (x4 + cI 2) (ix (m.1 1021 0)) = true) (g3 : inb (x4 + cI 3) (ix (m.1 1021 0)) = true) (g4 : inb (x4 + cI 4) (ix (m.1 1021 0)) = true) (g5 : inb (x4 + cI 5) (ix (m.1 1021 0)) = true) (g6 : inb (x4 + cI 6) (ix (m.1 1021 0)) = true) (K : ∀ z, I z → Ok (fLaw_h23 n z (x4 + cI 7)) P) (hj : ((m.1 1020 (ix x4)) &&& (cI 127)) = cI 74) (H : LC_74 I m) : Ok (fLaw_h23 (n + 1) m x4) P := by
  rw [lw_74 h1 h2 hj]
  obtain ⟨x, ex, ⟨e0, e1⟩, z, ez, ev, hI⟩ := H
  rw [ex, bd2_some]
  rw [ez, bd2_some, if_pos ev]
  exact K _ hI
end
theorem law_step {n : Nat} {m : ev_M} {x4 : Int32} {I : ev_M → Prop} {P : ev_M × Int32 → Prop} (h1 : x4 ≤ m.1 1021 0 - cI 7) (h2 : inb x4 (ix (m.1 1021 0)) = true) (g1 : inb (x4 + cI 1) (ix (m.1 1021 0)) = true) (g2 : inb (x4 + cI 2) (ix (m.1 1021 0)) = true) (g3 : inb (x4 + cI 3) (ix (m.1 1021 0)) = true) (g4 : inb (x4 + cI 4) (ix (m.1 1021 0)) = true) (g5 : inb (x4 + cI 5) (ix (m.1 1021 0)) = true) (g6 : inb (x4 + cI 6) (ix (m.1 1021 0)) = true) (K : ∀ z, I z → Ok (fLaw_h23 n z (x4 + cI 7)) P) (H : LCs I m) (H9 : I m) : Ok (fLaw_h23 (n + 1) m x4) P := by
  obtain ⟨c0, c1, c2, c3, c4, c5, c6, c7, c8, c9, c10, c11, c12, c13, c14, c15, c16, c17, c18, c19, c20, c21, c22, c23, c24, c25, c26, c27, c28, c29, c30, c31, c32, c33, c34, c35, c36, c37, c38, c39, c40, c41, c42, c43, c44, c45, c46, c47, c48, c49, c50, c51, c52, c53, c54, c55, c56, c57, c58, c59, c60, c61, c62, c63, c64, c65, c66, c67, c68, c69, c70, c71, c72, c73, c74⟩ := H
  by_cases q0 : ((m.1 1020 (ix x4)) &&& (cI 127)) = cI 0
  · exact ls_0 h1 h2 g1 g2 g3 g4 g5 g6 K q0 c0
  by_cases q1 : ((m.1 1020 (ix x4)) &&& (cI 127)) = cI 1
  · exact ls_1 h1 h2 g1 g2 g3 g4 g5 g6 K q1 c1
  by_cases q2 : ((m.1 1020 (ix x4)) &&& (cI 127)) = cI 2
  · exact ls_2 h1 h2 g1 g2 g3 g4 g5 g6 K q2 c2
  by_cases q3 : ((m.1 1020 (ix x4)) &&& (cI 127)) = cI 3
  · exact ls_3 h1 h2 g1 g2 g3 g4 g5 g6 K q3 c3
  by_cases q4 : ((m.1 1020 (ix x4)) &&& (cI 127)) = cI 4
  · exact ls_4 h1 h2 g1 g2 g3 g4 g5 g6 K q4 c4
  by_cases q5 : ((m.1 1020 (ix x4)) &&& (cI 127)) = cI 5
  · exact ls_5 h1 h2 g1 g2 g3 g4 g5 g6 K q5 c5
  by_cases q6 : ((m.1 1020 (ix x4)) &&& (cI 127)) = cI 6
  · exact ls_6 h1 h2 g1 g2 g3 g4 g5 g6 K q6 c6
  by_cases q7 : ((m.1 1020 (ix x4)) &&& (cI 127)) = cI 7
  · exact ls_7 h1 h2 g1 g2 g3 g4 g5 g6 K q7 c7
  by_cases q8 : ((m.1 1020 (ix x4)) &&& (cI 127)) = cI 8
  · exact ls_8 h1 h2 g1 g2 g3 g4 g5 g6 K q8 c8
  by_cases q9 : ((m.1 1020 (ix x4)) &&& (cI 127)) = cI 9
  · exact ls_9 h1 h2 g1 g2 g3 g4 g5 g6 K q9 c9
  by_cases q10 : ((m.1 1020 (ix x4)) &&& (cI 127)) = cI 10
  · exact ls_10 h1 h2 g1 g2 g3 g4 g5 g6 K q10 c10
  by_cases q11 : ((m.1 1020 (ix x4)) &&& (cI 127)) = cI 11
  · exact ls_11 h1 h2 g1 g2 g3 g4 g5 g6 K q11 c11
  by_cases q12 : ((m.1 1020 (ix x4)) &&& (cI 127)) = cI 12
  · exact ls_12 h1 h2 g1 g2 g3 g4 g5 g6 K q12 c12
  by_cases q13 : ((m.1 1020 (ix x4)) &&& (cI 127)) = cI 13
  · exact ls_13 h1 h2 g1 g2 g3 g4 g5 g6 K q13 c13
  by_cases q14 : ((m.1 1020 (ix x4)) &&& (cI 127)) = cI 14
  · exact ls_14 h1 h2 g1 g2 g3 g4 g5 g6 K q14 c14
  by_cases q15 : ((m.1 1020 (ix x4)) &&& (cI 127)) = cI 15
  · exact ls_15 h1 h2 g1 g2 g3 g4 g5 g6 K q15 c15
  by_cases q16 : ((m.1 1020 (ix x4)) &&& (cI 127)) = cI 16
  · exact ls_16 h1 h2 g1 g2 g3 g4 g5 g6 K q16 c16
  by_cases q17 : ((m.1 1020 (ix x4)) &&& (cI 127)) = cI 17
  · exact ls_17 h1 h2 g1 g2 g3 g4 g5 g6 K q17 c17
  by_cases q18 : ((m.1 1020 (ix x4)) &&& (cI 127)) = cI 18
  · exact ls_18 h1 h2 g1 g2 g3 g4 g5 g6 K q18 c18
  by_cases q19 : ((m.1 1020 (ix x4)) &&& (cI 127)) = cI 19
  · exact ls_19 h1 h2 g1 g2 g3 g4 g5 g6 K q19 c19
  by_cases q20 : ((m.1 1020 (ix x4)) &&& (cI 127)) = cI 20
  · exact ls_20 h1 h2 g1 g2 g3 g4 g5 g6 K q20 c20
  by_cases q21 : ((m.1 1020 (ix x4)) &&& (cI 127)) = cI 21
  · exact ls_21 h1 h2 g1 g2 g3 g4 g5 g6 K q21 c21
  by_cases q22 : ((m.1 1020 (ix x4)) &&& (cI 127)) = cI 22
  · exact ls_22 h1 h2 g1 g2 g3 g4 g5 g6 K q22 c22
  by_cases q23 : ((m.1 1020 (ix x4)) &&& (cI 127)) = cI 23
  · exact ls_23 h1 h2 g1 g2 g3 g4 g5 g6 K q23 c23
  by_cases q24 : ((m.1 1020 (ix x4)) &&& (cI 127)) = cI 24
  · exact ls_24 h1 h2 g1 g2 g3 g4 g5 g6 K q24 c24
  by_cases q25 : ((m.1 1020 (ix x4)) &&& (cI 127)) = cI 25
  · exact ls_25 h1 h2 g1 g2 g3 g4 g5 g6 K q25 c25
  by_cases q26 : ((m.1 1020 (ix x4)) &&& (cI 127)) = cI 26
  · exact ls_26 h1 h2 g1 g2 g3 g4 g5 g6 K q26 c26
  by_cases q27 : ((m.1 1020 (ix x4)) &&& (cI 127)) = cI 27
  · exact ls_27 h1 h2 g1 g2 g3 g4 g5 g6 K q27 c27
  by_cases q28 : ((m.1 1020 (ix x4)) &&& (cI 127)) = cI 28
  · exact ls_28 h1 h2 g1 g2 g3 g4 g5 g6 K q28 c28
  by_cases q29 : ((m.1 1020 (ix x4)) &&& (cI 127)) = cI 29
  · exact ls_29 h1 h2 g1 g2 g3 g4 g5 g6 K q29 c29
  by_cases q30 : ((m.1 1020 (ix x4)) &&& (cI 127)) = cI 30
  · exact ls_30 h1 h2 g1 g2 g3 g4 g5 g6 K q30 c30
  by_cases q31 : ((m.1 1020 (ix x4)) &&& (cI 127)) = cI 31
  · exact ls_31 h1 h2 g1 g2 g3 g4 g5 g6 K q31 c31
  by_cases q32 : ((m.1 1020 (ix x4)) &&& (cI 127)) = cI 32
  · exact ls_32 h1 h2 g1 g2 g3 g4 g5 g6 K q32 c32
  by_cases q33 : ((m.1 1020 (ix x4)) &&& (cI 127)) = cI 33
  · exact ls_33 h1 h2 g1 g2 g3 g4 g5 g6 K q33 c33
  by_cases q34 : ((m.1 1020 (ix x4)) &&& (cI 127)) = cI 34
  · exact ls_34 h1 h2 g1 g2 g3 g4 g5 g6 K q34 c34
  by_cases q35 : ((m.1 1020 (ix x4)) &&& (cI 127)) = cI 35
  · exact ls_35 h1 h2 g1 g2 g3 g4 g5 g6 K q35 c35
  by_cases q36 : ((m.1 1020 (ix x4)) &&& (cI 127)) = cI 36
  · exact ls_36 h1 h2 g1 g2 g3 g4 g5 g6 K q36 c36
  by_cases q37 : ((m.1 1020 (ix x4)) &&& (cI 127)) = cI 37
  · exact ls_37 h1 h2 g1 g2 g3 g4 g5 g6 K q37 c37
  by_cases q38 : ((m.1 1020 (ix x4)) &&& (cI 127)) = cI 38
  · exact ls_38 h1 h2 g1 g2 g3 g4 g5 g6 K q38 c38
  by_cases q39 : ((m.1 1020 (ix x4)) &&& (cI 127)) = cI 39
  · exact ls_39 h1 h2 g1 g2 g3 g4 g5 g6 K q39 c39
  by_cases q40 : ((m.1 1020 (ix x4)) &&& (cI 127)) = cI 40
  · exact ls_40 h1 h2 g1 g2 g3 g4 g5 g6 K q40 c40
  by_cases q41 : ((m.1 1020 (ix x4)) &&& (cI 127)) = cI 41
  · exact ls_41 h1 h2 g1 g2 g3 g4 g5 g6 K q41 c41
  by_cases q42 : ((m.1 1020 (ix x4)) &&& (cI 127)) = cI 42
  · exact ls_42 h1 h2 g1 g2 g3 g4 g5 g6 K q42 c42
  by_cases q43 : ((m.1 1020 (ix x4)) &&& (cI 127)) = cI 43
  · exact ls_43 h1 h2 g1 g2 g3 g4 g5 g6 K q43 c43
  by_cases q44 : ((m.1 1020 (ix x4)) &&& (cI 127)) = cI 44
  · exact ls_44 h1 h2 g1 g2 g3 g4 g5 g6 K q44 c44
  by_cases q45 : ((m.1 1020 (ix x4)) &&& (cI 127)) = cI 45
  · exact ls_45 h1 h2 g1 g2 g3 g4 g5 g6 K q45 c45
  by_cases q46 : ((m.1 1020 (ix x4)) &&& (cI 127)) = cI 46
  · exact ls_46 h1 h2 g1 g2 g3 g4 g5 g6 K q46 c46
  by_cases q47 : ((m.1 1020 (ix x4)) &&& (cI 127)) = cI 47
  · exact ls_47 h1 h2 g1 g2 g3 g4 g5 g6 K q47 c47
  by_cases q48 : ((m.1 1020 (ix x4)) &&& (cI 127)) = cI 48
  · exact ls_48 h1 h2 g1 g2 g3 g4 g5 g6 K q48 c48
  by_cases q49 : ((m.1 1020 (ix x4)) &&& (cI 127)) = cI 49
  · exact ls_49 h1 h2 g1 g2 g3 g4 g5 g6 K q49 c49
  by_cases q50 : ((m.1 1020 (ix x4)) &&& (cI 127)) = cI 50
  · exact ls_50 h1 h2 g1 g2 g3 g4 g5 g6 K q50 c50
  by_cases q51 : ((m.1 1020 (ix x4)) &&& (cI 127)) = cI 51
  · exact ls_51 h1 h2 g1 g2 g3 g4 g5 g6 K q51 c51
  by_cases q52 : ((m.1 1020 (ix x4)) &&& (cI 127)) = cI 52
  · exact ls_52 h1 h2 g1 g2 g3 g4 g5 g6 K q52 c52
  by_cases q53 : ((m.1 1020 (ix x4)) &&& (cI 127)) = cI 53
  · exact ls_53 h1 h2 g1 g2 g3 g4 g5 g6 K q53 c53
  by_cases q54 : ((m.1 1020 (ix x4)) &&& (cI 127)) = cI 54
  · exact ls_54 h1 h2 g1 g2 g3 g4 g5 g6 K q54 c54
  by_cases q55 : ((m.1 1020 (ix x4)) &&& (cI 127)) = cI 55
  · exact ls_55 h1 h2 g1 g2 g3 g4 g5 g6 K q55 c55
  by_cases q56 : ((m.1 1020 (ix x4)) &&& (cI 127)) = cI 56
  · exact ls_56 h1 h2 g1 g2 g3 g4 g5 g6 K q56 c56
  by_cases q57 : ((m.1 1020 (ix x4)) &&& (cI 127)) = cI 57
  · exact ls_57 h1 h2 g1 g2 g3 g4 g5 g6 K q57 c57
  by_cases q58 : ((m.1 1020 (ix x4)) &&& (cI 127)) = cI 58
  · exact ls_58 h1 h2 g1 g2 g3 g4 g5 g6 K q58 c58
  by_cases q59 : ((m.1 1020 (ix x4)) &&& (cI 127)) = cI 59
  · exact ls_59 h1 h2 g1 g2 g3 g4 g5 g6 K q59 c59
  by_cases q60 : ((m.1 1020 (ix x4)) &&& (cI 127)) = cI 60
  · exact ls_60 h1 h2 g1 g2 g3 g4 g5 g6 K q60 c60
  by_cases q61 : ((m.1 1020 (ix x4)) &&& (cI 127)) = cI 61
  · exact ls_61 h1 h2 g1 g2 g3 g4 g5 g6 K q61 c61
  by_cases q62 : ((m.1 1020 (ix x4)) &&& (cI 127)) = cI 62
  · exact ls_62 h1 h2 g1 g2 g3 g4 g5 g6 K q62 c62
  by_cases q63 : ((m.1 1020 (ix x4)) &&& (cI 127)) = cI 63
  · exact ls_63 h1 h2 g1 g2 g3 g4 g5 g6 K q63 c63
  by_cases q64 : ((m.1 1020 (ix x4)) &&& (cI 127)) = cI 64
  · exact ls_64 h1 h2 g1 g2 g3 g4 g5 g6 K q64 c64
  by_cases q65 : ((m.1 1020 (ix x4)) &&& (cI 127)) = cI 65
  · exact ls_65 h1 h2 g1 g2 g3 g4 g5 g6 K q65 c65
  by_cases q66 : ((m.1 1020 (ix x4)) &&& (cI 127)) = cI 66
  · exact ls_66 h1 h2 g1 g2 g3 g4 g5 g6 K q66 c66
  by_cases q67 : ((m.1 1020 (ix x4)) &&& (cI 127)) = cI 67
  · exact ls_67 h1 h2 g1 g2 g3 g4 g5 g6 K q67 c67
  by_cases q68 : ((m.1 1020 (ix x4)) &&& (cI 127)) = cI 68
  · exact ls_68 h1 h2 g1 g2 g3 g4 g5 g6 K q68 c68
  by_cases q69 : ((m.1 1020 (ix x4)) &&& (cI 127)) = cI 69
  · exact ls_69 h1 h2 g1 g2 g3 g4 g5 g6 K q69 c69
  by_cases q70 : ((m.1 1020 (ix x4)) &&& (cI 127)) = cI 70
  · exact ls_70 h1 h2 g1 g2 g3 g4 g5 g6 K q70 c70
  by_cases q71 : ((m.1 1020 (ix x4)) &&& (cI 127)) = cI 71
  · exact ls_71 h1 h2 g1 g2 g3 g4 g5 g6 K q71 c71
  by_cases q72 : ((m.1 1020 (ix x4)) &&& (cI 127)) = cI 72
  · exact ls_72 h1 h2 g1 g2 g3 g4 g5 g6 K q72 c72
  by_cases q73 : ((m.1 1020 (ix x4)) &&& (cI 127)) = cI 73
  · exact ls_73 h1 h2 g1 g2 g3 g4 g5 g6 K q73 c73
  by_cases q74 : ((m.1 1020 (ix x4)) &&& (cI 127)) = cI 74
  · exact ls_74 h1 h2 g1 g2 g3 g4 g5 g6 K q74 c74
  rw [lw_no h1 h2 q0 q1 q2 q3 q4 q5 q6 q7 q8 q9 q10 q11 q12 q13 q14 q15 q16 q17 q18 q19 q20 q21 q22 q23 q24 q25 q26 q27 q28 q29 q30 q31 q32 q33 q34 q35 q36 q37 q38 q39 q40 q41 q42 q43 q44 q45 q46 q47 q48 q49 q50 q51 q52 q53 q54 q55 q56 q57 q58 q59 q60 q61 q62 q63 q64 q65 q66 q67 q68 q69 q70 q71 q72 q73 q74]
  exact K _ H9
/-- the law answers 1, if every call keeps what is said -/
theorem law_loop {I : Nat → ev_M → Prop} {L : Nat} (hL : L ≤ 448) (hlen : ∀ i m, I i m → m.1 1021 0 = cI (L : Nat)) (hstep : ∀ i m, 7 * i + 7 ≤ L → I i m → LCs (I (i + 1)) m ∧ I (i + 1) m) : ∀ (r i : Nat) (m : ev_M) (x4 : Int32), x4.toInt = 7 * i → i + r = 70 → I i m → Ok (fLaw_h23 (r + 1) m x4) fun q => q.2 = cI 1 ∧ ∃ j, j ≤ i + r ∧ (j = i ∨ 7 * j ≤ L) ∧ I j q.1 := by
  intro r
  induction r with
  | zero =>
    intro i m x4 hx hr hI
    have e7 : (cI 7).toInt = 7 := rfl
    have el : (m.1 1021 0).toInt = L := by rw [hlen i m hI, cI_toInt (by omega) (by omega)]
    have h1 : ¬ x4 ≤ m.1 1021 0 - cI 7 := by
      rw [le_i, sub_toInt (by omega) (by omega)]
      omega
    rw [lw_end h1, ok_some]
    exact ⟨rfl, i, Nat.le_refl _, Or.inl rfl, hI⟩
  | succ r ih =>
    intro i m x4 hx hr hI
    have e7 : (cI 7).toInt = 7 := rfl
    have el : (m.1 1021 0).toInt = L := by rw [hlen i m hI, cI_toInt (by omega) (by omega)]
    by_cases h1 : x4 ≤ m.1 1021 0 - cI 7
    · have h3 : 7 * i + 7 ≤ L := by
        rw [le_i, sub_toInt (by omega) (by omega)] at h1
        omega
      have en : (ix (m.1 1021 0) : Nat) = L := by rw [ix_toNat, el]; omega
      have g : ∀ k : Nat, k < 7 → inb (x4 + cI k) (ix (m.1 1021 0)) = true := fun k hk => by
        have ek : (cI (k : Nat)).toInt = k := cI_toInt (by omega) (by omega)
        refine inb_iff.mpr ?_
        rw [add_toInt (by omega) (by omega), ek, en]
        omega
      have g0 : inb x4 (ix (m.1 1021 0)) = true := inb_iff.mpr (by rw [en]; omega)
      obtain ⟨H, H9⟩ := hstep i m h3 hI
      refine law_step (I := I (i + 1)) h1 g0 (g 1 (by decide)) (g 2 (by decide)) (g 3 (by decide)) (g 4 (by decide)) (g 5 (by decide)) (g 6 (by decide)) (fun z hz => ?_) H H9
      refine (ih (i + 1) z (x4 + cI 7) (by rw [add_toInt (by omega) (by omega)]; omega) (by omega) hz).mono fun q hq => ⟨hq.1, ?_⟩
      obtain ⟨j, j1, j2, j3⟩ := hq.2
      refine ⟨j, by omega, Or.inr ?_, j3⟩
      rcases j2 with rfl | j2
      · omega
      · exact j2
    · rw [lw_end h1, ok_some]
      exact ⟨rfl, i, by omega, Or.inl rfl, hI⟩
