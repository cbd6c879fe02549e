/-! ===== LEVEL 3: the law, case by case (printed) ===== -/
section
variable {n : Nat} {s : ev_M} {x4 : Int32}
theorem lw_0 (h1 : x4 ≤ s.1 1021 0 - cI 7) (h2 : inb x4 (ix (s.1 1021 0)) = true) (h : ((s.1 1020 (ix x4)) &&& (cI 127)) = cI 0) : fLaw_h23 (n + 1) s x4 = (
    if inb (x4 + (cI 1)) (ix (s.1 1021 0)) = true then
    if inb (x4 + (cI 2)) (ix (s.1 1021 0)) = true then
    if inb (x4 + (cI 3)) (ix (s.1 1021 0)) = true then
    if inb (x4 + (cI 4)) (ix (s.1 1021 0)) = true then
    if inb (x4 + (cI 5)) (ix (s.1 1021 0)) = true then
    bd2 (fFeed s (s.1 1020 (ix (x4 + (cI 1)))) (s.1 1020 (ix (x4 + (cI 2)))) (s.1 1020 (ix (x4 + (cI 3)))) (s.1 1020 (ix (x4 + (cI 4)))) (s.1 1020 (ix (x4 + (cI 5))))) fun s5 v6 =>
    if inb (x4 + (cI 1)) (ix (s5.1 1021 0)) = true then
    if inb (x4 + (cI 2)) (ix (s5.1 1021 0)) = true then
    if inb (x4 + (cI 3)) (ix (s5.1 1021 0)) = true then
    if inb (x4 + (cI 4)) (ix (s5.1 1021 0)) = true then
    if inb (x4 + (cI 5)) (ix (s5.1 1021 0)) = true then
    bd2 (fM_feed s5 (s5.1 1020 (ix (x4 + (cI 1)))) (s5.1 1020 (ix (x4 + (cI 2)))) (s5.1 1020 (ix (x4 + (cI 3)))) (s5.1 1020 (ix (x4 + (cI 4)))) (s5.1 1020 (ix (x4 + (cI 5))))) fun s7 v8 =>
    bd1 (fM_thrown s7) fun v9 =>
    if v9 = v6 then
      if v6 = 0 then
        if (lg_cmp (s7.2.1 681 (ix (cI 0))) (Int32.toInt64 v8)) = 0 then
          fLaw_b457 (fLaw_h23 n) s7 x4
        else
          some (s7, (cI 0))
      else
        fLaw_b457 (fLaw_h23 n) s7 x4
    else
      some (s7, (cI 0))
    else none
    else none
    else none
    else none
    else none
    else none
    else none
    else none
    else none
    else none) := by
  unfold fLaw_h23
  rw [if_pos h1, if_pos h2, h]
  rfl
theorem lw_1 (h1 : x4 ≤ s.1 1021 0 - cI 7) (h2 : inb x4 (ix (s.1 1021 0)) = true) (h : ((s.1 1020 (ix x4)) &&& (cI 127)) = cI 1) : fLaw_h23 (n + 1) s x4 = (
    if inb (x4 + (cI 1)) (ix (s.1 1021 0)) = true then
    bd2 (fEnd s (s.1 1020 (ix (x4 + (cI 1))))) fun s10 v11 =>
    if inb (x4 + (cI 1)) (ix (s10.1 1021 0)) = true then
    bd1 (fM_end s10 (s10.1 1020 (ix (x4 + (cI 1))))) fun s12 =>
    bd1 (fM_thrown s12) fun v13 =>
    if v13 = v11 then
      fLaw_b3122 (fLaw_h23 n) s12 x4
    else
      some (s12, (cI 0))
    else none
    else none) := by
  unfold fLaw_h23
  rw [if_pos h1, if_pos h2, h]
  rfl
theorem lw_2 (h1 : x4 ≤ s.1 1021 0 - cI 7) (h2 : inb x4 (ix (s.1 1021 0)) = true) (h : ((s.1 1020 (ix x4)) &&& (cI 127)) = cI 2) : fLaw_h23 (n + 1) s x4 = (
    bd2 (fPH_sync s) fun s14 v15 =>
    bd2 (fM_sync s14) fun s16 v17 =>
    if v15 = v17 then
      fLaw_b3122 (fLaw_h23 n) s16 x4
    else
      some (s16, (cI 0))) := by
  unfold fLaw_h23
  rw [if_pos h1, if_pos h2, h]
  rfl
theorem lw_3 (h1 : x4 ≤ s.1 1021 0 - cI 7) (h2 : inb x4 (ix (s.1 1021 0)) = true) (h : ((s.1 1020 (ix x4)) &&& (cI 127)) = cI 3) : fLaw_h23 (n + 1) s x4 = (
    if inb (x4 + (cI 1)) (ix (s.1 1021 0)) = true then
    if inb (x4 + (cI 2)) (ix (s.1 1021 0)) = true then
    bd2 (fPH_cut s (s.1 1020 (ix (x4 + (cI 1)))) (s.1 1020 (ix (x4 + (cI 2))))) fun s18 v19 =>
    if inb (x4 + (cI 1)) (ix (s18.1 1021 0)) = true then
    if inb (x4 + (cI 2)) (ix (s18.1 1021 0)) = true then
    bd2 (fM_cut s18 (s18.1 1020 (ix (x4 + (cI 1)))) (s18.1 1020 (ix (x4 + (cI 2))))) fun s20 v21 =>
    if v19 = v21 then
      fLaw_b3122 (fLaw_h23 n) s20 x4
    else
      some (s20, (cI 0))
    else none
    else none
    else none
    else none) := by
  unfold fLaw_h23
  rw [if_pos h1, if_pos h2, h]
  rfl
theorem lw_4 (h1 : x4 ≤ s.1 1021 0 - cI 7) (h2 : inb x4 (ix (s.1 1021 0)) = true) (h : ((s.1 1020 (ix x4)) &&& (cI 127)) = cI 4) : fLaw_h23 (n + 1) s x4 = (
    bd2 (fPH_start s) fun s22 v23 =>
    bd2 (fM_start s22) fun s24 v25 =>
    if v23 = v25 then
      fLaw_b3122 (fLaw_h23 n) s24 x4
    else
      some (s24, (cI 0))) := by
  unfold fLaw_h23
  rw [if_pos h1, if_pos h2, h]
  rfl
theorem lw_5 (h1 : x4 ≤ s.1 1021 0 - cI 7) (h2 : inb x4 (ix (s.1 1021 0)) = true) (h : ((s.1 1020 (ix x4)) &&& (cI 127)) = cI 5) : fLaw_h23 (n + 1) s x4 = (
    bd1 (fPH_verify s) fun v26 =>
    bd2 (fM_verify s) fun s27 v28 =>
    if v26 = v28 then
      fLaw_b3122 (fLaw_h23 n) s27 x4
    else
      some (s27, (cI 0))) := by
  unfold fLaw_h23
  rw [if_pos h1, if_pos h2, h]
  rfl
theorem lw_6 (h1 : x4 ≤ s.1 1021 0 - cI 7) (h2 : inb x4 (ix (s.1 1021 0)) = true) (h : ((s.1 1020 (ix x4)) &&& (cI 127)) = cI 6) : fLaw_h23 (n + 1) s x4 = (
    if inb (x4 + (cI 1)) (ix (s.1 1021 0)) = true then
    if inb (x4 + (cI 2)) (ix (s.1 1021 0)) = true then
    bd2 (fOctet s (s.1 1020 (ix (x4 + (cI 1)))) (s.1 1020 (ix (x4 + (cI 2))))) fun s29 v30 =>
    if inb (x4 + (cI 1)) (ix (s29.1 1021 0)) = true then
    if inb (x4 + (cI 2)) (ix (s29.1 1021 0)) = true then
    bd2 (fM_octet s29 (s29.1 1020 (ix (x4 + (cI 1)))) (s29.1 1020 (ix (x4 + (cI 2))))) fun s31 v32 =>
    bd1 (fM_thrown s31) fun v33 =>
    if v33 = v30 then
      if v30 = 0 then
        if (lg_cmp (s31.2.1 681 (ix (cI 0))) (Int32.toInt64 v32)) = 0 then
          fLaw_b637 (fLaw_h23 n) s31 x4
        else
          some (s31, (cI 0))
      else
        fLaw_b637 (fLaw_h23 n) s31 x4
    else
      some (s31, (cI 0))
    else none
    else none
    else none
    else none) := by
  unfold fLaw_h23
  rw [if_pos h1, if_pos h2, h]
  rfl
theorem lw_7 (h1 : x4 ≤ s.1 1021 0 - cI 7) (h2 : inb x4 (ix (s.1 1021 0)) = true) (h : ((s.1 1020 (ix x4)) &&& (cI 127)) = cI 7) : fLaw_h23 (n + 1) s x4 = (
    if inb (x4 + (cI 1)) (ix (s.1 1021 0)) = true then
    if inb (x4 + (cI 2)) (ix (s.1 1021 0)) = true then
    if inb (x4 + (cI 3)) (ix (s.1 1021 0)) = true then
    bd2 (fPoke s (s.1 1020 (ix (x4 + (cI 1)))) (s.1 1020 (ix (x4 + (cI 2)))) (s.1 1020 (ix (x4 + (cI 3))))) fun s34 v35 =>
    if inb (x4 + (cI 1)) (ix (s34.1 1021 0)) = true then
    if inb (x4 + (cI 2)) (ix (s34.1 1021 0)) = true then
    if inb (x4 + (cI 3)) (ix (s34.1 1021 0)) = true then
    bd2 (fM_poke s34 (s34.1 1020 (ix (x4 + (cI 1)))) (s34.1 1020 (ix (x4 + (cI 2)))) (s34.1 1020 (ix (x4 + (cI 3))))) fun s36 v37 =>
    bd1 (fM_thrown s36) fun v38 =>
    if v38 = v35 then
      if v35 = 0 then
        if (lg_cmp (s36.2.1 681 (ix (cI 0))) (Int32.toInt64 v37)) = 0 then
          fLaw_b717 (fLaw_h23 n) s36 x4
        else
          some (s36, (cI 0))
      else
        fLaw_b717 (fLaw_h23 n) s36 x4
    else
      some (s36, (cI 0))
    else none
    else none
    else none
    else none
    else none
    else none) := by
  unfold fLaw_h23
  rw [if_pos h1, if_pos h2, h]
  rfl
theorem lw_8 (h1 : x4 ≤ s.1 1021 0 - cI 7) (h2 : inb x4 (ix (s.1 1021 0)) = true) (h : ((s.1 1020 (ix x4)) &&& (cI 127)) = cI 8) : fLaw_h23 (n + 1) s x4 = (
    if inb (x4 + (cI 1)) (ix (s.1 1021 0)) = true then
    bd1 (fPH_count s (s.1 1020 (ix (x4 + (cI 1))))) fun v39 =>
    if inb (x4 + (cI 1)) (ix (s.1 1021 0)) = true then
    bd2 (fM_count s (s.1 1020 (ix (x4 + (cI 1))))) fun s40 v41 =>
    if v39 = v41 then
      fLaw_b3122 (fLaw_h23 n) s40 x4
    else
      some (s40, (cI 0))
    else none
    else none) := by
  unfold fLaw_h23
  rw [if_pos h1, if_pos h2, h]
  rfl
theorem lw_9 (h1 : x4 ≤ s.1 1021 0 - cI 7) (h2 : inb x4 (ix (s.1 1021 0)) = true) (h : ((s.1 1020 (ix x4)) &&& (cI 127)) = cI 9) : fLaw_h23 (n + 1) s x4 = (
    bd2 (fPH_book s) fun s42 v43 =>
    bd2 (fM_book s42) fun s44 v45 =>
    if v43 = v45 then
      fLaw_b3122 (fLaw_h23 n) s44 x4
    else
      some (s44, (cI 0))) := by
  unfold fLaw_h23
  rw [if_pos h1, if_pos h2, h]
  rfl
theorem lw_10 (h1 : x4 ≤ s.1 1021 0 - cI 7) (h2 : inb x4 (ix (s.1 1021 0)) = true) (h : ((s.1 1020 (ix x4)) &&& (cI 127)) = cI 10) : fLaw_h23 (n + 1) s x4 = (
    if inb (x4 + (cI 1)) (ix (s.1 1021 0)) = true then
    if inb (x4 + (cI 2)) (ix (s.1 1021 0)) = true then
    if inb (x4 + (cI 3)) (ix (s.1 1021 0)) = true then
    if inb (x4 + (cI 4)) (ix (s.1 1021 0)) = true then
    bd2 (fPH_forward s (s.1 1020 (ix (x4 + (cI 1)))) (s.1 1020 (ix (x4 + (cI 2)))) (s.1 1020 (ix (x4 + (cI 3)))) (s.1 1020 (ix (x4 + (cI 4))))) fun s46 v47 =>
    if inb (x4 + (cI 1)) (ix (s46.1 1021 0)) = true then
    if inb (x4 + (cI 2)) (ix (s46.1 1021 0)) = true then
    if inb (x4 + (cI 3)) (ix (s46.1 1021 0)) = true then
    if inb (x4 + (cI 4)) (ix (s46.1 1021 0)) = true then
    bd2 (fM_forward s46 (s46.1 1020 (ix (x4 + (cI 1)))) (s46.1 1020 (ix (x4 + (cI 2)))) (s46.1 1020 (ix (x4 + (cI 3)))) (s46.1 1020 (ix (x4 + (cI 4))))) fun s48 v49 =>
    if v47 = v49 then
      fLaw_b3122 (fLaw_h23 n) s48 x4
    else
      some (s48, (cI 0))
    else none
    else none
    else none
    else none
    else none
    else none
    else none
    else none) := by
  unfold fLaw_h23
  rw [if_pos h1, if_pos h2, h]
  rfl
theorem lw_11 (h1 : x4 ≤ s.1 1021 0 - cI 7) (h2 : inb x4 (ix (s.1 1021 0)) = true) (h : ((s.1 1020 (ix x4)) &&& (cI 127)) = cI 11) : fLaw_h23 (n + 1) s x4 = (
    if inb (x4 + (cI 1)) (ix (s.1 1021 0)) = true then
    if inb (x4 + (cI 2)) (ix (s.1 1021 0)) = true then
    if inb (x4 + (cI 3)) (ix (s.1 1021 0)) = true then
    bd2 (fPH_hold s (s.1 1020 (ix (x4 + (cI 1)))) (s.1 1020 (ix (x4 + (cI 2)))) (s.1 1020 (ix (x4 + (cI 3))))) fun s50 v51 =>
    if inb (x4 + (cI 1)) (ix (s50.1 1021 0)) = true then
    if inb (x4 + (cI 2)) (ix (s50.1 1021 0)) = true then
    if inb (x4 + (cI 3)) (ix (s50.1 1021 0)) = true then
    bd2 (fM_hold s50 (s50.1 1020 (ix (x4 + (cI 1)))) (s50.1 1020 (ix (x4 + (cI 2)))) (s50.1 1020 (ix (x4 + (cI 3))))) fun s52 v53 =>
    if v51 = v53 then
      fLaw_b3122 (fLaw_h23 n) s52 x4
    else
      some (s52, (cI 0))
    else none
    else none
    else none
    else none
    else none
    else none) := by
  unfold fLaw_h23
  rw [if_pos h1, if_pos h2, h]
  rfl
theorem lw_12 (h1 : x4 ≤ s.1 1021 0 - cI 7) (h2 : inb x4 (ix (s.1 1021 0)) = true) (h : ((s.1 1020 (ix x4)) &&& (cI 127)) = cI 12) : fLaw_h23 (n + 1) s x4 = (
    if inb (x4 + (cI 1)) (ix (s.1 1021 0)) = true then
    if inb (x4 + (cI 2)) (ix (s.1 1021 0)) = true then
    bd2 (fPH_effective s (s.1 1020 (ix (x4 + (cI 1)))) (s.1 1020 (ix (x4 + (cI 2))))) fun s54 v55 =>
    if inb (x4 + (cI 1)) (ix (s54.1 1021 0)) = true then
    if inb (x4 + (cI 2)) (ix (s54.1 1021 0)) = true then
    bd2 (fM_effective s54 (s54.1 1020 (ix (x4 + (cI 1)))) (s54.1 1020 (ix (x4 + (cI 2))))) fun s56 v57 =>
    if v55 = v57 then
      fLaw_b3122 (fLaw_h23 n) s56 x4
    else
      some (s56, (cI 0))
    else none
    else none
    else none
    else none) := by
  unfold fLaw_h23
  rw [if_pos h1, if_pos h2, h]
  rfl
theorem lw_13 (h1 : x4 ≤ s.1 1021 0 - cI 7) (h2 : inb x4 (ix (s.1 1021 0)) = true) (h : ((s.1 1020 (ix x4)) &&& (cI 127)) = cI 13) : fLaw_h23 (n + 1) s x4 = (
    if inb (x4 + (cI 1)) (ix (s.1 1021 0)) = true then
    if inb (x4 + (cI 2)) (ix (s.1 1021 0)) = true then
    bd2 (fPH_lastPoint s (s.1 1020 (ix (x4 + (cI 1)))) (s.1 1020 (ix (x4 + (cI 2))))) fun s58 v59 =>
    if inb (x4 + (cI 1)) (ix (s58.1 1021 0)) = true then
    if inb (x4 + (cI 2)) (ix (s58.1 1021 0)) = true then
    bd2 (fM_lastPoint s58 (s58.1 1020 (ix (x4 + (cI 1)))) (s58.1 1020 (ix (x4 + (cI 2))))) fun s60 v61 =>
    if v59 = v61 then
      fLaw_b3122 (fLaw_h23 n) s60 x4
    else
      some (s60, (cI 0))
    else none
    else none
    else none
    else none) := by
  unfold fLaw_h23
  rw [if_pos h1, if_pos h2, h]
  rfl
theorem lw_14 (h1 : x4 ≤ s.1 1021 0 - cI 7) (h2 : inb x4 (ix (s.1 1021 0)) = true) (h : ((s.1 1020 (ix x4)) &&& (cI 127)) = cI 14) : fLaw_h23 (n + 1) s x4 = (
    if inb (x4 + (cI 1)) (ix (s.1 1021 0)) = true then
    bd1 (fPH_find s (s.1 1020 (ix (x4 + (cI 1))))) fun v62 =>
    if inb (x4 + (cI 1)) (ix (s.1 1021 0)) = true then
    bd2 (fM_find s (s.1 1020 (ix (x4 + (cI 1))))) fun s63 v64 =>
    if v62 = v64 then
      fLaw_b3122 (fLaw_h23 n) s63 x4
    else
      some (s63, (cI 0))
    else none
    else none) := by
  unfold fLaw_h23
  rw [if_pos h1, if_pos h2, h]
  rfl
theorem lw_15 (h1 : x4 ≤ s.1 1021 0 - cI 7) (h2 : inb x4 (ix (s.1 1021 0)) = true) (h : ((s.1 1020 (ix x4)) &&& (cI 127)) = cI 15) : fLaw_h23 (n + 1) s x4 = (
    if inb (x4 + (cI 1)) (ix (s.1 1021 0)) = true then
    if inb (x4 + (cI 2)) (ix (s.1 1021 0)) = true then
    bd1 (fPH_pointAt s (s.1 1020 (ix (x4 + (cI 1)))) (s.1 1020 (ix (x4 + (cI 2))))) fun v65 =>
    if inb (x4 + (cI 1)) (ix (s.1 1021 0)) = true then
    if inb (x4 + (cI 2)) (ix (s.1 1021 0)) = true then
    bd2 (fM_pointAt s (s.1 1020 (ix (x4 + (cI 1)))) (s.1 1020 (ix (x4 + (cI 2))))) fun s66 v67 =>
    if v65 = v67 then
      fLaw_b3122 (fLaw_h23 n) s66 x4
    else
      some (s66, (cI 0))
    else none
    else none
    else none
    else none) := by
  unfold fLaw_h23
  rw [if_pos h1, if_pos h2, h]
  rfl
theorem lw_16 (h1 : x4 ≤ s.1 1021 0 - cI 7) (h2 : inb x4 (ix (s.1 1021 0)) = true) (h : ((s.1 1020 (ix x4)) &&& (cI 127)) = cI 16) : fLaw_h23 (n + 1) s x4 = (
    if inb (x4 + (cI 1)) (ix (s.1 1021 0)) = true then
    bd2 (fPH_sheet s (s.1 1020 (ix (x4 + (cI 1))))) fun s68 v69 =>
    if inb (x4 + (cI 1)) (ix (s68.1 1021 0)) = true then
    bd2 (fM_sheet s68 (s68.1 1020 (ix (x4 + (cI 1))))) fun s70 v71 =>
    if v69 = v71 then
      fLaw_b3122 (fLaw_h23 n) s70 x4
    else
      some (s70, (cI 0))
    else none
    else none) := by
  unfold fLaw_h23
  rw [if_pos h1, if_pos h2, h]
  rfl
theorem lw_17 (h1 : x4 ≤ s.1 1021 0 - cI 7) (h2 : inb x4 (ix (s.1 1021 0)) = true) (h : ((s.1 1020 (ix x4)) &&& (cI 127)) = cI 17) : fLaw_h23 (n + 1) s x4 = (
    bd1 (fPH_read s) fun v72 =>
    bd2 (fM_read s) fun s73 v74 =>
    if v72 = v74 then
      fLaw_b3122 (fLaw_h23 n) s73 x4
    else
      some (s73, (cI 0))) := by
  unfold fLaw_h23
  rw [if_pos h1, if_pos h2, h]
  rfl
theorem lw_18 (h1 : x4 ≤ s.1 1021 0 - cI 7) (h2 : inb x4 (ix (s.1 1021 0)) = true) (h : ((s.1 1020 (ix x4)) &&& (cI 127)) = cI 18) : fLaw_h23 (n + 1) s x4 = (
    if inb (x4 + (cI 1)) (ix (s.1 1021 0)) = true then
    if inb (x4 + (cI 2)) (ix (s.1 1021 0)) = true then
    bd1 (fPH_textLine s (s.1 1020 (ix (x4 + (cI 1)))) (s.1 1020 (ix (x4 + (cI 2))))) fun v75 =>
    if inb (x4 + (cI 1)) (ix (s.1 1021 0)) = true then
    if inb (x4 + (cI 2)) (ix (s.1 1021 0)) = true then
    bd2 (fM_textLine s (s.1 1020 (ix (x4 + (cI 1)))) (s.1 1020 (ix (x4 + (cI 2))))) fun s76 v77 =>
    if v75 = v77 then
      fLaw_b3122 (fLaw_h23 n) s76 x4
    else
      some (s76, (cI 0))
    else none
    else none
    else none
    else none) := by
  unfold fLaw_h23
  rw [if_pos h1, if_pos h2, h]
  rfl
theorem lw_19 (h1 : x4 ≤ s.1 1021 0 - cI 7) (h2 : inb x4 (ix (s.1 1021 0)) = true) (h : ((s.1 1020 (ix x4)) &&& (cI 127)) = cI 19) : fLaw_h23 (n + 1) s x4 = (
    if inb (x4 + (cI 1)) (ix (s.1 1021 0)) = true then
    if inb (x4 + (cI 2)) (ix (s.1 1021 0)) = true then
    if inb (x4 + (cI 3)) (ix (s.1 1021 0)) = true then
    bd1 (fPH_sign s (s.1 1020 (ix (x4 + (cI 1)))) (s.1 1020 (ix (x4 + (cI 2)))) (s.1 1020 (ix (x4 + (cI 3))))) fun v78 =>
    if inb (x4 + (cI 1)) (ix (s.1 1021 0)) = true then
    if inb (x4 + (cI 2)) (ix (s.1 1021 0)) = true then
    if inb (x4 + (cI 3)) (ix (s.1 1021 0)) = true then
    bd2 (fM_sign s (s.1 1020 (ix (x4 + (cI 1)))) (s.1 1020 (ix (x4 + (cI 2)))) (s.1 1020 (ix (x4 + (cI 3))))) fun s79 v80 =>
    if v78 = v80 then
      fLaw_b3122 (fLaw_h23 n) s79 x4
    else
      some (s79, (cI 0))
    else none
    else none
    else none
    else none
    else none
    else none) := by
  unfold fLaw_h23
  rw [if_pos h1, if_pos h2, h]
  rfl
theorem lw_20 (h1 : x4 ≤ s.1 1021 0 - cI 7) (h2 : inb x4 (ix (s.1 1021 0)) = true) (h : ((s.1 1020 (ix x4)) &&& (cI 127)) = cI 20) : fLaw_h23 (n + 1) s x4 = (
    if inb (x4 + (cI 1)) (ix (s.1 1021 0)) = true then
    if inb (x4 + (cI 2)) (ix (s.1 1021 0)) = true then
    if inb (x4 + (cI 3)) (ix (s.1 1021 0)) = true then
    if inb (x4 + (cI 4)) (ix (s.1 1021 0)) = true then
    if inb (x4 + (cI 5)) (ix (s.1 1021 0)) = true then
    if inb (x4 + (cI 6)) (ix (s.1 1021 0)) = true then
    bd2 (fPH_item s (s.1 1020 (ix (x4 + (cI 1)))) (s.1 1020 (ix (x4 + (cI 2)))) (s.1 1020 (ix (x4 + (cI 3)))) (s.1 1020 (ix (x4 + (cI 4)))) (s.1 1020 (ix (x4 + (cI 5)))) (s.1 1020 (ix (x4 + (cI 6))))) fun s81 v82 =>
    if inb (x4 + (cI 1)) (ix (s81.1 1021 0)) = true then
    if inb (x4 + (cI 2)) (ix (s81.1 1021 0)) = true then
    if inb (x4 + (cI 3)) (ix (s81.1 1021 0)) = true then
    if inb (x4 + (cI 4)) (ix (s81.1 1021 0)) = true then
    if inb (x4 + (cI 5)) (ix (s81.1 1021 0)) = true then
    if inb (x4 + (cI 6)) (ix (s81.1 1021 0)) = true then
    bd2 (fM_item s81 (s81.1 1020 (ix (x4 + (cI 1)))) (s81.1 1020 (ix (x4 + (cI 2)))) (s81.1 1020 (ix (x4 + (cI 3)))) (s81.1 1020 (ix (x4 + (cI 4)))) (s81.1 1020 (ix (x4 + (cI 5)))) (s81.1 1020 (ix (x4 + (cI 6))))) fun s83 v84 =>
    if v82 = v84 then
      fLaw_b3122 (fLaw_h23 n) s83 x4
    else
      some (s83, (cI 0))
    else none
    else none
    else none
    else none
    else none
    else none
    else none
    else none
    else none
    else none
    else none
    else none) := by
  unfold fLaw_h23
  rw [if_pos h1, if_pos h2, h]
  rfl
theorem lw_21 (h1 : x4 ≤ s.1 1021 0 - cI 7) (h2 : inb x4 (ix (s.1 1021 0)) = true) (h : ((s.1 1020 (ix x4)) &&& (cI 127)) = cI 21) : fLaw_h23 (n + 1) s x4 = (
    if inb (x4 + (cI 1)) (ix (s.1 1021 0)) = true then
    if inb (x4 + (cI 2)) (ix (s.1 1021 0)) = true then
    bd2 (fPH_address s (s.1 1020 (ix (x4 + (cI 1)))) (s.1 1020 (ix (x4 + (cI 2))))) fun s85 v86 =>
    if inb (x4 + (cI 1)) (ix (s85.1 1021 0)) = true then
    if inb (x4 + (cI 2)) (ix (s85.1 1021 0)) = true then
    bd2 (fM_address s85 (s85.1 1020 (ix (x4 + (cI 1)))) (s85.1 1020 (ix (x4 + (cI 2))))) fun s87 v88 =>
    if v86 = v88 then
      fLaw_b3122 (fLaw_h23 n) s87 x4
    else
      some (s87, (cI 0))
    else none
    else none
    else none
    else none) := by
  unfold fLaw_h23
  rw [if_pos h1, if_pos h2, h]
  rfl
theorem lw_22 (h1 : x4 ≤ s.1 1021 0 - cI 7) (h2 : inb x4 (ix (s.1 1021 0)) = true) (h : ((s.1 1020 (ix x4)) &&& (cI 127)) = cI 22) : fLaw_h23 (n + 1) s x4 = (
    if inb (x4 + (cI 1)) (ix (s.1 1021 0)) = true then
    bd2 (fPH_take s (s.1 1020 (ix (x4 + (cI 1))))) fun s89 v90 =>
    if inb (x4 + (cI 1)) (ix (s89.1 1021 0)) = true then
    bd2 (fM_take s89 (s89.1 1020 (ix (x4 + (cI 1))))) fun s91 v92 =>
    if v90 = v92 then
      fLaw_b3122 (fLaw_h23 n) s91 x4
    else
      some (s91, (cI 0))
    else none
    else none) := by
  unfold fLaw_h23
  rw [if_pos h1, if_pos h2, h]
  rfl
theorem lw_23 (h1 : x4 ≤ s.1 1021 0 - cI 7) (h2 : inb x4 (ix (s.1 1021 0)) = true) (h : ((s.1 1020 (ix x4)) &&& (cI 127)) = cI 23) : fLaw_h23 (n + 1) s x4 = (
    if inb (x4 + (cI 1)) (ix (s.1 1021 0)) = true then
    if inb (x4 + (cI 2)) (ix (s.1 1021 0)) = true then
    if inb (x4 + (cI 3)) (ix (s.1 1021 0)) = true then
    bd2 (fPH_clerk s (s.1 1020 (ix (x4 + (cI 1)))) (s.1 1020 (ix (x4 + (cI 2)))) (s.1 1020 (ix (x4 + (cI 3))))) fun s93 v94 =>
    if inb (x4 + (cI 1)) (ix (s93.1 1021 0)) = true then
    if inb (x4 + (cI 2)) (ix (s93.1 1021 0)) = true then
    if inb (x4 + (cI 3)) (ix (s93.1 1021 0)) = true then
    bd2 (fM_clerk s93 (s93.1 1020 (ix (x4 + (cI 1)))) (s93.1 1020 (ix (x4 + (cI 2)))) (s93.1 1020 (ix (x4 + (cI 3))))) fun s95 v96 =>
    if v94 = v96 then
      fLaw_b3122 (fLaw_h23 n) s95 x4
    else
      some (s95, (cI 0))
    else none
    else none
    else none
    else none
    else none
    else none) := by
  unfold fLaw_h23
  rw [if_pos h1, if_pos h2, h]
  rfl
theorem lw_24 (h1 : x4 ≤ s.1 1021 0 - cI 7) (h2 : inb x4 (ix (s.1 1021 0)) = true) (h : ((s.1 1020 (ix x4)) &&& (cI 127)) = cI 24) : fLaw_h23 (n + 1) s x4 = (
    if inb (x4 + (cI 1)) (ix (s.1 1021 0)) = true then
    if inb (x4 + (cI 2)) (ix (s.1 1021 0)) = true then
    bd2 (fPH_post s (s.1 1020 (ix (x4 + (cI 1)))) (s.1 1020 (ix (x4 + (cI 2))))) fun s97 v98 =>
    if inb (x4 + (cI 1)) (ix (s97.1 1021 0)) = true then
    if inb (x4 + (cI 2)) (ix (s97.1 1021 0)) = true then
    bd2 (fM_post s97 (s97.1 1020 (ix (x4 + (cI 1)))) (s97.1 1020 (ix (x4 + (cI 2))))) fun s99 v100 =>
    if v98 = v100 then
      fLaw_b3122 (fLaw_h23 n) s99 x4
    else
      some (s99, (cI 0))
    else none
    else none
    else none
    else none) := by
  unfold fLaw_h23
  rw [if_pos h1, if_pos h2, h]
  rfl
theorem lw_25 (h1 : x4 ≤ s.1 1021 0 - cI 7) (h2 : inb x4 (ix (s.1 1021 0)) = true) (h : ((s.1 1020 (ix x4)) &&& (cI 127)) = cI 25) : fLaw_h23 (n + 1) s x4 = (
    if inb (x4 + (cI 1)) (ix (s.1 1021 0)) = true then
    if inb (x4 + (cI 2)) (ix (s.1 1021 0)) = true then
    bd2 (fPH_about s (s.1 1020 (ix (x4 + (cI 1)))) (s.1 1020 (ix (x4 + (cI 2))))) fun s101 v102 =>
    if inb (x4 + (cI 1)) (ix (s101.1 1021 0)) = true then
    if inb (x4 + (cI 2)) (ix (s101.1 1021 0)) = true then
    bd2 (fM_about s101 (s101.1 1020 (ix (x4 + (cI 1)))) (s101.1 1020 (ix (x4 + (cI 2))))) fun s103 v104 =>
    if v102 = v104 then
      fLaw_b3122 (fLaw_h23 n) s103 x4
    else
      some (s103, (cI 0))
    else none
    else none
    else none
    else none) := by
  unfold fLaw_h23
  rw [if_pos h1, if_pos h2, h]
  rfl
theorem lw_26 (h1 : x4 ≤ s.1 1021 0 - cI 7) (h2 : inb x4 (ix (s.1 1021 0)) = true) (h : ((s.1 1020 (ix x4)) &&& (cI 127)) = cI 26) : fLaw_h23 (n + 1) s x4 = (
    if inb (x4 + (cI 1)) (ix (s.1 1021 0)) = true then
    if inb (x4 + (cI 2)) (ix (s.1 1021 0)) = true then
    bd2 (fPH_bar s (s.1 1020 (ix (x4 + (cI 1)))) (s.1 1020 (ix (x4 + (cI 2))))) fun s105 v106 =>
    if inb (x4 + (cI 1)) (ix (s105.1 1021 0)) = true then
    if inb (x4 + (cI 2)) (ix (s105.1 1021 0)) = true then
    bd2 (fM_bar s105 (s105.1 1020 (ix (x4 + (cI 1)))) (s105.1 1020 (ix (x4 + (cI 2))))) fun s107 v108 =>
    if v106 = v108 then
      fLaw_b3122 (fLaw_h23 n) s107 x4
    else
      some (s107, (cI 0))
    else none
    else none
    else none
    else none) := by
  unfold fLaw_h23
  rw [if_pos h1, if_pos h2, h]
  rfl
theorem lw_27 (h1 : x4 ≤ s.1 1021 0 - cI 7) (h2 : inb x4 (ix (s.1 1021 0)) = true) (h : ((s.1 1020 (ix x4)) &&& (cI 127)) = cI 27) : fLaw_h23 (n + 1) s x4 = (
    bd2 (fPH_scan s) fun s109 v110 =>
    bd2 (fM_scan s109) fun s111 v112 =>
    if v110 = v112 then
      fLaw_b3122 (fLaw_h23 n) s111 x4
    else
      some (s111, (cI 0))) := by
  unfold fLaw_h23
  rw [if_pos h1, if_pos h2, h]
  rfl
theorem lw_28 (h1 : x4 ≤ s.1 1021 0 - cI 7) (h2 : inb x4 (ix (s.1 1021 0)) = true) (h : ((s.1 1020 (ix x4)) &&& (cI 127)) = cI 28) : fLaw_h23 (n + 1) s x4 = (
    bd1 (fPH_mended s) fun v113 =>
    bd2 (fM_mended s) fun s114 v115 =>
    if v113 = v115 then
      fLaw_b3122 (fLaw_h23 n) s114 x4
    else
      some (s114, (cI 0))) := by
  unfold fLaw_h23
  rw [if_pos h1, if_pos h2, h]
  rfl
theorem lw_29 (h1 : x4 ≤ s.1 1021 0 - cI 7) (h2 : inb x4 (ix (s.1 1021 0)) = true) (h : ((s.1 1020 (ix x4)) &&& (cI 127)) = cI 29) : fLaw_h23 (n + 1) s x4 = (
    if inb (x4 + (cI 1)) (ix (s.1 1021 0)) = true then
    if inb (x4 + (cI 2)) (ix (s.1 1021 0)) = true then
    if inb (x4 + (cI 3)) (ix (s.1 1021 0)) = true then
    if inb (x4 + (cI 4)) (ix (s.1 1021 0)) = true then
    bd2 (fPH_machine s (s.1 1020 (ix (x4 + (cI 1)))) (s.1 1020 (ix (x4 + (cI 2)))) (s.1 1020 (ix (x4 + (cI 3)))) (s.1 1020 (ix (x4 + (cI 4))))) fun s116 v117 =>
    if inb (x4 + (cI 1)) (ix (s116.1 1021 0)) = true then
    if inb (x4 + (cI 2)) (ix (s116.1 1021 0)) = true then
    if inb (x4 + (cI 3)) (ix (s116.1 1021 0)) = true then
    if inb (x4 + (cI 4)) (ix (s116.1 1021 0)) = true then
    bd2 (fM_machine s116 (s116.1 1020 (ix (x4 + (cI 1)))) (s116.1 1020 (ix (x4 + (cI 2)))) (s116.1 1020 (ix (x4 + (cI 3)))) (s116.1 1020 (ix (x4 + (cI 4))))) fun s118 v119 =>
    if v117 = v119 then
      fLaw_b3122 (fLaw_h23 n) s118 x4
    else
      some (s118, (cI 0))
    else none
    else none
    else none
    else none
    else none
    else none
    else none
    else none) := by
  unfold fLaw_h23
  rw [if_pos h1, if_pos h2, h]
  rfl
theorem lw_30 (h1 : x4 ≤ s.1 1021 0 - cI 7) (h2 : inb x4 (ix (s.1 1021 0)) = true) (h : ((s.1 1020 (ix x4)) &&& (cI 127)) = cI 30) : fLaw_h23 (n + 1) s x4 = (
    if inb (x4 + (cI 1)) (ix (s.1 1021 0)) = true then
    if inb (x4 + (cI 2)) (ix (s.1 1021 0)) = true then
    if inb (x4 + (cI 3)) (ix (s.1 1021 0)) = true then
    bd2 (fPH_round s (s.1 1020 (ix (x4 + (cI 1)))) (s.1 1020 (ix (x4 + (cI 2)))) (s.1 1020 (ix (x4 + (cI 3))))) fun s120 v121 =>
    if inb (x4 + (cI 1)) (ix (s120.1 1021 0)) = true then
    if inb (x4 + (cI 2)) (ix (s120.1 1021 0)) = true then
    if inb (x4 + (cI 3)) (ix (s120.1 1021 0)) = true then
    bd2 (fM_round s120 (s120.1 1020 (ix (x4 + (cI 1)))) (s120.1 1020 (ix (x4 + (cI 2)))) (s120.1 1020 (ix (x4 + (cI 3))))) fun s122 v123 =>
    if v121 = v123 then
      fLaw_b3122 (fLaw_h23 n) s122 x4
    else
      some (s122, (cI 0))
    else none
    else none
    else none
    else none
    else none
    else none) := by
  unfold fLaw_h23
  rw [if_pos h1, if_pos h2, h]
  rfl
theorem lw_31 (h1 : x4 ≤ s.1 1021 0 - cI 7) (h2 : inb x4 (ix (s.1 1021 0)) = true) (h : ((s.1 1020 (ix x4)) &&& (cI 127)) = cI 31) : fLaw_h23 (n + 1) s x4 = (
    if inb (x4 + (cI 1)) (ix (s.1 1021 0)) = true then
    if inb (x4 + (cI 2)) (ix (s.1 1021 0)) = true then
    bd2 (fPH_assign s (s.1 1020 (ix (x4 + (cI 1)))) (s.1 1020 (ix (x4 + (cI 2))))) fun s124 v125 =>
    if inb (x4 + (cI 1)) (ix (s124.1 1021 0)) = true then
    if inb (x4 + (cI 2)) (ix (s124.1 1021 0)) = true then
    bd2 (fM_assign s124 (s124.1 1020 (ix (x4 + (cI 1)))) (s124.1 1020 (ix (x4 + (cI 2))))) fun s126 v127 =>
    if v125 = v127 then
      fLaw_b3122 (fLaw_h23 n) s126 x4
    else
      some (s126, (cI 0))
    else none
    else none
    else none
    else none) := by
  unfold fLaw_h23
  rw [if_pos h1, if_pos h2, h]
  rfl
theorem lw_32 (h1 : x4 ≤ s.1 1021 0 - cI 7) (h2 : inb x4 (ix (s.1 1021 0)) = true) (h : ((s.1 1020 (ix x4)) &&& (cI 127)) = cI 32) : fLaw_h23 (n + 1) s x4 = (
    if inb (x4 + (cI 1)) (ix (s.1 1021 0)) = true then
    bd2 (fPH_arrange s (s.1 1020 (ix (x4 + (cI 1))))) fun s128 v129 =>
    if inb (x4 + (cI 1)) (ix (s128.1 1021 0)) = true then
    bd2 (fM_arrange s128 (s128.1 1020 (ix (x4 + (cI 1))))) fun s130 v131 =>
    if v129 = v131 then
      fLaw_b3122 (fLaw_h23 n) s130 x4
    else
      some (s130, (cI 0))
    else none
    else none) := by
  unfold fLaw_h23
  rw [if_pos h1, if_pos h2, h]
  rfl
theorem lw_33 (h1 : x4 ≤ s.1 1021 0 - cI 7) (h2 : inb x4 (ix (s.1 1021 0)) = true) (h : ((s.1 1020 (ix x4)) &&& (cI 127)) = cI 33) : fLaw_h23 (n + 1) s x4 = (
    if inb (x4 + (cI 1)) (ix (s.1 1021 0)) = true then
    if inb (x4 + (cI 2)) (ix (s.1 1021 0)) = true then
    bd1 (fPH_stop s (s.1 1020 (ix (x4 + (cI 1)))) (s.1 1020 (ix (x4 + (cI 2))))) fun v132 =>
    if inb (x4 + (cI 1)) (ix (s.1 1021 0)) = true then
    if inb (x4 + (cI 2)) (ix (s.1 1021 0)) = true then
    bd2 (fM_stop s (s.1 1020 (ix (x4 + (cI 1)))) (s.1 1020 (ix (x4 + (cI 2))))) fun s133 v134 =>
    if v132 = v134 then
      fLaw_b3122 (fLaw_h23 n) s133 x4
    else
      some (s133, (cI 0))
    else none
    else none
    else none
    else none) := by
  unfold fLaw_h23
  rw [if_pos h1, if_pos h2, h]
  rfl
theorem lw_34 (h1 : x4 ≤ s.1 1021 0 - cI 7) (h2 : inb x4 (ix (s.1 1021 0)) = true) (h : ((s.1 1020 (ix x4)) &&& (cI 127)) = cI 34) : fLaw_h23 (n + 1) s x4 = (
    if inb (x4 + (cI 1)) (ix (s.1 1021 0)) = true then
    bd2 (fPH_sort s (s.1 1020 (ix (x4 + (cI 1))))) fun s135 v136 =>
    if inb (x4 + (cI 1)) (ix (s135.1 1021 0)) = true then
    bd2 (fM_sort s135 (s135.1 1020 (ix (x4 + (cI 1))))) fun s137 v138 =>
    if v136 = v138 then
      fLaw_b3122 (fLaw_h23 n) s137 x4
    else
      some (s137, (cI 0))
    else none
    else none) := by
  unfold fLaw_h23
  rw [if_pos h1, if_pos h2, h]
  rfl
theorem lw_35 (h1 : x4 ≤ s.1 1021 0 - cI 7) (h2 : inb x4 (ix (s.1 1021 0)) = true) (h : ((s.1 1020 (ix x4)) &&& (cI 127)) = cI 35) : fLaw_h23 (n + 1) s x4 = (
    bd1 (fPH_passes s) fun v139 =>
    bd2 (fM_passes s) fun s140 v141 =>
    if v139 = v141 then
      fLaw_b3122 (fLaw_h23 n) s140 x4
    else
      some (s140, (cI 0))) := by
  unfold fLaw_h23
  rw [if_pos h1, if_pos h2, h]
  rfl
theorem lw_36 (h1 : x4 ≤ s.1 1021 0 - cI 7) (h2 : inb x4 (ix (s.1 1021 0)) = true) (h : ((s.1 1020 (ix x4)) &&& (cI 127)) = cI 36) : fLaw_h23 (n + 1) s x4 = (
    if inb (x4 + (cI 1)) (ix (s.1 1021 0)) = true then
    bd1 (fPH_wrong s (s.1 1020 (ix (x4 + (cI 1))))) fun v142 =>
    if inb (x4 + (cI 1)) (ix (s.1 1021 0)) = true then
    bd2 (fM_wrong s (s.1 1020 (ix (x4 + (cI 1))))) fun s143 v144 =>
    if v142 = v144 then
      fLaw_b3122 (fLaw_h23 n) s143 x4
    else
      some (s143, (cI 0))
    else none
    else none) := by
  unfold fLaw_h23
  rw [if_pos h1, if_pos h2, h]
  rfl
theorem lw_37 (h1 : x4 ≤ s.1 1021 0 - cI 7) (h2 : inb x4 (ix (s.1 1021 0)) = true) (h : ((s.1 1020 (ix x4)) &&& (cI 127)) = cI 37) : fLaw_h23 (n + 1) s x4 = (
    if inb (x4 + (cI 1)) (ix (s.1 1021 0)) = true then
    if inb (x4 + (cI 2)) (ix (s.1 1021 0)) = true then
    bd1 (fPH_row s (s.1 1020 (ix (x4 + (cI 1)))) (s.1 1020 (ix (x4 + (cI 2))))) fun v145 =>
    if inb (x4 + (cI 1)) (ix (s.1 1021 0)) = true then
    if inb (x4 + (cI 2)) (ix (s.1 1021 0)) = true then
    bd2 (fM_row s (s.1 1020 (ix (x4 + (cI 1)))) (s.1 1020 (ix (x4 + (cI 2))))) fun s146 v147 =>
    if v145 = v147 then
      fLaw_b3122 (fLaw_h23 n) s146 x4
    else
      some (s146, (cI 0))
    else none
    else none
    else none
    else none) := by
  unfold fLaw_h23
  rw [if_pos h1, if_pos h2, h]
  rfl
theorem lw_38 (h1 : x4 ≤ s.1 1021 0 - cI 7) (h2 : inb x4 (ix (s.1 1021 0)) = true) (h : ((s.1 1020 (ix x4)) &&& (cI 127)) = cI 38) : fLaw_h23 (n + 1) s x4 = (
    if inb (x4 + (cI 1)) (ix (s.1 1021 0)) = true then
    bd2 (fPH_out s (s.1 1020 (ix (x4 + (cI 1))))) fun s148 v149 =>
    if inb (x4 + (cI 1)) (ix (s148.1 1021 0)) = true then
    bd2 (fM_out s148 (s148.1 1020 (ix (x4 + (cI 1))))) fun s150 v151 =>
    if v149 = v151 then
      fLaw_b3122 (fLaw_h23 n) s150 x4
    else
      some (s150, (cI 0))
    else none
    else none) := by
  unfold fLaw_h23
  rw [if_pos h1, if_pos h2, h]
  rfl
theorem lw_39 (h1 : x4 ≤ s.1 1021 0 - cI 7) (h2 : inb x4 (ix (s.1 1021 0)) = true) (h : ((s.1 1020 (ix x4)) &&& (cI 127)) = cI 39) : fLaw_h23 (n + 1) s x4 = (
    if inb (x4 + (cI 1)) (ix (s.1 1021 0)) = true then
    if inb (x4 + (cI 2)) (ix (s.1 1021 0)) = true then
    if inb (x4 + (cI 3)) (ix (s.1 1021 0)) = true then
    if inb (x4 + (cI 4)) (ix (s.1 1021 0)) = true then
    if inb (x4 + (cI 5)) (ix (s.1 1021 0)) = true then
    bd2 (fPH_leg s (s.1 1020 (ix (x4 + (cI 1)))) (s.1 1020 (ix (x4 + (cI 2)))) (s.1 1020 (ix (x4 + (cI 3)))) (s.1 1020 (ix (x4 + (cI 4)))) (s.1 1020 (ix (x4 + (cI 5))))) fun s152 v153 =>
    if inb (x4 + (cI 1)) (ix (s152.1 1021 0)) = true then
    if inb (x4 + (cI 2)) (ix (s152.1 1021 0)) = true then
    if inb (x4 + (cI 3)) (ix (s152.1 1021 0)) = true then
    if inb (x4 + (cI 4)) (ix (s152.1 1021 0)) = true then
    if inb (x4 + (cI 5)) (ix (s152.1 1021 0)) = true then
    bd2 (fM_leg s152 (s152.1 1020 (ix (x4 + (cI 1)))) (s152.1 1020 (ix (x4 + (cI 2)))) (s152.1 1020 (ix (x4 + (cI 3)))) (s152.1 1020 (ix (x4 + (cI 4)))) (s152.1 1020 (ix (x4 + (cI 5))))) fun s154 v155 =>
    if v153 = v155 then
      fLaw_b3122 (fLaw_h23 n) s154 x4
    else
      some (s154, (cI 0))
    else none
    else none
    else none
    else none
    else none
    else none
    else none
    else none
    else none
    else none) := by
  unfold fLaw_h23
  rw [if_pos h1, if_pos h2, h]
  rfl
theorem lw_40 (h1 : x4 ≤ s.1 1021 0 - cI 7) (h2 : inb x4 (ix (s.1 1021 0)) = true) (h : ((s.1 1020 (ix x4)) &&& (cI 127)) = cI 40) : fLaw_h23 (n + 1) s x4 = (
    if inb (x4 + (cI 1)) (ix (s.1 1021 0)) = true then
    if inb (x4 + (cI 2)) (ix (s.1 1021 0)) = true then
    bd2 (fPH_late s (s.1 1020 (ix (x4 + (cI 1)))) (s.1 1020 (ix (x4 + (cI 2))))) fun s156 v157 =>
    if inb (x4 + (cI 1)) (ix (s156.1 1021 0)) = true then
    if inb (x4 + (cI 2)) (ix (s156.1 1021 0)) = true then
    bd2 (fM_late s156 (s156.1 1020 (ix (x4 + (cI 1)))) (s156.1 1020 (ix (x4 + (cI 2))))) fun s158 v159 =>
    if v157 = v159 then
      fLaw_b3122 (fLaw_h23 n) s158 x4
    else
      some (s158, (cI 0))
    else none
    else none
    else none
    else none) := by
  unfold fLaw_h23
  rw [if_pos h1, if_pos h2, h]
  rfl
theorem lw_41 (h1 : x4 ≤ s.1 1021 0 - cI 7) (h2 : inb x4 (ix (s.1 1021 0)) = true) (h : ((s.1 1020 (ix x4)) &&& (cI 127)) = cI 41) : fLaw_h23 (n + 1) s x4 = (
    if inb (x4 + (cI 1)) (ix (s.1 1021 0)) = true then
    if inb (x4 + (cI 2)) (ix (s.1 1021 0)) = true then
    bd2 (fPH_bag s (s.1 1020 (ix (x4 + (cI 1)))) (s.1 1020 (ix (x4 + (cI 2))))) fun s160 v161 =>
    if inb (x4 + (cI 1)) (ix (s160.1 1021 0)) = true then
    if inb (x4 + (cI 2)) (ix (s160.1 1021 0)) = true then
    bd2 (fM_bag s160 (s160.1 1020 (ix (x4 + (cI 1)))) (s160.1 1020 (ix (x4 + (cI 2))))) fun s162 v163 =>
    if v161 = v163 then
      fLaw_b3122 (fLaw_h23 n) s162 x4
    else
      some (s162, (cI 0))
    else none
    else none
    else none
    else none) := by
  unfold fLaw_h23
  rw [if_pos h1, if_pos h2, h]
  rfl
theorem lw_42 (h1 : x4 ≤ s.1 1021 0 - cI 7) (h2 : inb x4 (ix (s.1 1021 0)) = true) (h : ((s.1 1020 (ix x4)) &&& (cI 127)) = cI 42) : fLaw_h23 (n + 1) s x4 = (
    if inb (x4 + (cI 1)) (ix (s.1 1021 0)) = true then
    if inb (x4 + (cI 2)) (ix (s.1 1021 0)) = true then
    bd2 (fPH_into s (s.1 1020 (ix (x4 + (cI 1)))) (s.1 1020 (ix (x4 + (cI 2))))) fun s164 v165 =>
    if inb (x4 + (cI 1)) (ix (s164.1 1021 0)) = true then
    if inb (x4 + (cI 2)) (ix (s164.1 1021 0)) = true then
    bd2 (fM_into s164 (s164.1 1020 (ix (x4 + (cI 1)))) (s164.1 1020 (ix (x4 + (cI 2))))) fun s166 v167 =>
    if v165 = v167 then
      fLaw_b3122 (fLaw_h23 n) s166 x4
    else
      some (s166, (cI 0))
    else none
    else none
    else none
    else none) := by
  unfold fLaw_h23
  rw [if_pos h1, if_pos h2, h]
  rfl
theorem lw_43 (h1 : x4 ≤ s.1 1021 0 - cI 7) (h2 : inb x4 (ix (s.1 1021 0)) = true) (h : ((s.1 1020 (ix x4)) &&& (cI 127)) = cI 43) : fLaw_h23 (n + 1) s x4 = (
    if inb (x4 + (cI 1)) (ix (s.1 1021 0)) = true then
    bd2 (fPH_closeBag s (s.1 1020 (ix (x4 + (cI 1))))) fun s168 v169 =>
    if inb (x4 + (cI 1)) (ix (s168.1 1021 0)) = true then
    bd2 (fM_closeBag s168 (s168.1 1020 (ix (x4 + (cI 1))))) fun s170 v171 =>
    if v169 = v171 then
      fLaw_b3122 (fLaw_h23 n) s170 x4
    else
      some (s170, (cI 0))
    else none
    else none) := by
  unfold fLaw_h23
  rw [if_pos h1, if_pos h2, h]
  rfl
theorem lw_44 (h1 : x4 ≤ s.1 1021 0 - cI 7) (h2 : inb x4 (ix (s.1 1021 0)) = true) (h : ((s.1 1020 (ix x4)) &&& (cI 127)) = cI 44) : fLaw_h23 (n + 1) s x4 = (
    if inb (x4 + (cI 1)) (ix (s.1 1021 0)) = true then
    bd2 (fPH_openBag s (s.1 1020 (ix (x4 + (cI 1))))) fun s172 v173 =>
    if inb (x4 + (cI 1)) (ix (s172.1 1021 0)) = true then
    bd2 (fM_openBag s172 (s172.1 1020 (ix (x4 + (cI 1))))) fun s174 v175 =>
    if v173 = v175 then
      fLaw_b3122 (fLaw_h23 n) s174 x4
    else
      some (s174, (cI 0))
    else none
    else none) := by
  unfold fLaw_h23
  rw [if_pos h1, if_pos h2, h]
  rfl
theorem lw_45 (h1 : x4 ≤ s.1 1021 0 - cI 7) (h2 : inb x4 (ix (s.1 1021 0)) = true) (h : ((s.1 1020 (ix x4)) &&& (cI 127)) = cI 45) : fLaw_h23 (n + 1) s x4 = (
    if inb (x4 + (cI 1)) (ix (s.1 1021 0)) = true then
    if inb (x4 + (cI 2)) (ix (s.1 1021 0)) = true then
    bd1 (fPH_bagAt s (s.1 1020 (ix (x4 + (cI 1)))) (s.1 1020 (ix (x4 + (cI 2))))) fun v176 =>
    if inb (x4 + (cI 1)) (ix (s.1 1021 0)) = true then
    if inb (x4 + (cI 2)) (ix (s.1 1021 0)) = true then
    bd2 (fM_bagAt s (s.1 1020 (ix (x4 + (cI 1)))) (s.1 1020 (ix (x4 + (cI 2))))) fun s177 v178 =>
    if v176 = v178 then
      fLaw_b3122 (fLaw_h23 n) s177 x4
    else
      some (s177, (cI 0))
    else none
    else none
    else none
    else none) := by
  unfold fLaw_h23
  rw [if_pos h1, if_pos h2, h]
  rfl
theorem lw_46 (h1 : x4 ≤ s.1 1021 0 - cI 7) (h2 : inb x4 (ix (s.1 1021 0)) = true) (h : ((s.1 1020 (ix x4)) &&& (cI 127)) = cI 46) : fLaw_h23 (n + 1) s x4 = (
    if inb (x4 + (cI 1)) (ix (s.1 1021 0)) = true then
    if inb (x4 + (cI 2)) (ix (s.1 1021 0)) = true then
    if inb (x4 + (cI 3)) (ix (s.1 1021 0)) = true then
    bd2 (fPH_way s (s.1 1020 (ix (x4 + (cI 1)))) (s.1 1020 (ix (x4 + (cI 2)))) (s.1 1020 (ix (x4 + (cI 3))))) fun s179 v180 =>
    if inb (x4 + (cI 1)) (ix (s179.1 1021 0)) = true then
    if inb (x4 + (cI 2)) (ix (s179.1 1021 0)) = true then
    if inb (x4 + (cI 3)) (ix (s179.1 1021 0)) = true then
    bd2 (fM_way s179 (s179.1 1020 (ix (x4 + (cI 1)))) (s179.1 1020 (ix (x4 + (cI 2)))) (s179.1 1020 (ix (x4 + (cI 3))))) fun s181 v182 =>
    if v180 = v182 then
      fLaw_b3122 (fLaw_h23 n) s181 x4
    else
      some (s181, (cI 0))
    else none
    else none
    else none
    else none
    else none
    else none) := by
  unfold fLaw_h23
  rw [if_pos h1, if_pos h2, h]
  rfl
theorem lw_47 (h1 : x4 ≤ s.1 1021 0 - cI 7) (h2 : inb x4 (ix (s.1 1021 0)) = true) (h : ((s.1 1020 (ix x4)) &&& (cI 127)) = cI 47) : fLaw_h23 (n + 1) s x4 = (
    if inb (x4 + (cI 1)) (ix (s.1 1021 0)) = true then
    if inb (x4 + (cI 2)) (ix (s.1 1021 0)) = true then
    if inb (x4 + (cI 3)) (ix (s.1 1021 0)) = true then
    if inb (x4 + (cI 4)) (ix (s.1 1021 0)) = true then
    bd2 (fPH_hand s (s.1 1020 (ix (x4 + (cI 1)))) (s.1 1020 (ix (x4 + (cI 2)))) (s.1 1020 (ix (x4 + (cI 3)))) (s.1 1020 (ix (x4 + (cI 4))))) fun s183 v184 =>
    if inb (x4 + (cI 1)) (ix (s183.1 1021 0)) = true then
    if inb (x4 + (cI 2)) (ix (s183.1 1021 0)) = true then
    if inb (x4 + (cI 3)) (ix (s183.1 1021 0)) = true then
    if inb (x4 + (cI 4)) (ix (s183.1 1021 0)) = true then
    bd2 (fM_hand s183 (s183.1 1020 (ix (x4 + (cI 1)))) (s183.1 1020 (ix (x4 + (cI 2)))) (s183.1 1020 (ix (x4 + (cI 3)))) (s183.1 1020 (ix (x4 + (cI 4))))) fun s185 v186 =>
    if v184 = v186 then
      fLaw_b3122 (fLaw_h23 n) s185 x4
    else
      some (s185, (cI 0))
    else none
    else none
    else none
    else none
    else none
    else none
    else none
    else none) := by
  unfold fLaw_h23
  rw [if_pos h1, if_pos h2, h]
  rfl
theorem lw_48 (h1 : x4 ≤ s.1 1021 0 - cI 7) (h2 : inb x4 (ix (s.1 1021 0)) = true) (h : ((s.1 1020 (ix x4)) &&& (cI 127)) = cI 48) : fLaw_h23 (n + 1) s x4 = (
    if inb (x4 + (cI 1)) (ix (s.1 1021 0)) = true then
    bd2 (fPH_miss s (s.1 1020 (ix (x4 + (cI 1))))) fun s187 v188 =>
    if inb (x4 + (cI 1)) (ix (s187.1 1021 0)) = true then
    bd2 (fM_miss s187 (s187.1 1020 (ix (x4 + (cI 1))))) fun s189 v190 =>
    if v188 = v190 then
      fLaw_b3122 (fLaw_h23 n) s189 x4
    else
      some (s189, (cI 0))
    else none
    else none) := by
  unfold fLaw_h23
  rw [if_pos h1, if_pos h2, h]
  rfl
theorem lw_49 (h1 : x4 ≤ s.1 1021 0 - cI 7) (h2 : inb x4 (ix (s.1 1021 0)) = true) (h : ((s.1 1020 (ix x4)) &&& (cI 127)) = cI 49) : fLaw_h23 (n + 1) s x4 = (
    if inb (x4 + (cI 1)) (ix (s.1 1021 0)) = true then
    bd2 (fPH_refuse s (s.1 1020 (ix (x4 + (cI 1))))) fun s191 v192 =>
    if inb (x4 + (cI 1)) (ix (s191.1 1021 0)) = true then
    bd2 (fM_refuse s191 (s191.1 1020 (ix (x4 + (cI 1))))) fun s193 v194 =>
    if v192 = v194 then
      fLaw_b3122 (fLaw_h23 n) s193 x4
    else
      some (s193, (cI 0))
    else none
    else none) := by
  unfold fLaw_h23
  rw [if_pos h1, if_pos h2, h]
  rfl
theorem lw_50 (h1 : x4 ≤ s.1 1021 0 - cI 7) (h2 : inb x4 (ix (s.1 1021 0)) = true) (h : ((s.1 1020 (ix x4)) &&& (cI 127)) = cI 50) : fLaw_h23 (n + 1) s x4 = (
    if inb (x4 + (cI 1)) (ix (s.1 1021 0)) = true then
    if inb (x4 + (cI 2)) (ix (s.1 1021 0)) = true then
    bd2 (fPH_put s (s.1 1020 (ix (x4 + (cI 1)))) (s.1 1020 (ix (x4 + (cI 2))))) fun s195 v196 =>
    if inb (x4 + (cI 1)) (ix (s195.1 1021 0)) = true then
    if inb (x4 + (cI 2)) (ix (s195.1 1021 0)) = true then
    bd2 (fM_put s195 (s195.1 1020 (ix (x4 + (cI 1)))) (s195.1 1020 (ix (x4 + (cI 2))))) fun s197 v198 =>
    if v196 = v198 then
      fLaw_b3122 (fLaw_h23 n) s197 x4
    else
      some (s197, (cI 0))
    else none
    else none
    else none
    else none) := by
  unfold fLaw_h23
  rw [if_pos h1, if_pos h2, h]
  rfl
theorem lw_51 (h1 : x4 ≤ s.1 1021 0 - cI 7) (h2 : inb x4 (ix (s.1 1021 0)) = true) (h : ((s.1 1020 (ix x4)) &&& (cI 127)) = cI 51) : fLaw_h23 (n + 1) s x4 = (
    if inb (x4 + (cI 1)) (ix (s.1 1021 0)) = true then
    if inb (x4 + (cI 2)) (ix (s.1 1021 0)) = true then
    if inb (x4 + (cI 3)) (ix (s.1 1021 0)) = true then
    if inb (x4 + (cI 4)) (ix (s.1 1021 0)) = true then
    bd2 (fPH_pickUp s (s.1 1020 (ix (x4 + (cI 1)))) (s.1 1020 (ix (x4 + (cI 2)))) (s.1 1020 (ix (x4 + (cI 3)))) (s.1 1020 (ix (x4 + (cI 4))))) fun s199 v200 =>
    if inb (x4 + (cI 1)) (ix (s199.1 1021 0)) = true then
    if inb (x4 + (cI 2)) (ix (s199.1 1021 0)) = true then
    if inb (x4 + (cI 3)) (ix (s199.1 1021 0)) = true then
    if inb (x4 + (cI 4)) (ix (s199.1 1021 0)) = true then
    bd2 (fM_pickUp s199 (s199.1 1020 (ix (x4 + (cI 1)))) (s199.1 1020 (ix (x4 + (cI 2)))) (s199.1 1020 (ix (x4 + (cI 3)))) (s199.1 1020 (ix (x4 + (cI 4))))) fun s201 v202 =>
    if v200 = v202 then
      fLaw_b3122 (fLaw_h23 n) s201 x4
    else
      some (s201, (cI 0))
    else none
    else none
    else none
    else none
    else none
    else none
    else none
    else none) := by
  unfold fLaw_h23
  rw [if_pos h1, if_pos h2, h]
  rfl
theorem lw_52 (h1 : x4 ≤ s.1 1021 0 - cI 7) (h2 : inb x4 (ix (s.1 1021 0)) = true) (h : ((s.1 1020 (ix x4)) &&& (cI 127)) = cI 52) : fLaw_h23 (n + 1) s x4 = (
    if inb (x4 + (cI 1)) (ix (s.1 1021 0)) = true then
    if inb (x4 + (cI 2)) (ix (s.1 1021 0)) = true then
    bd2 (fPH_openBox s (s.1 1020 (ix (x4 + (cI 1)))) (s.1 1020 (ix (x4 + (cI 2))))) fun s203 v204 =>
    if inb (x4 + (cI 1)) (ix (s203.1 1021 0)) = true then
    if inb (x4 + (cI 2)) (ix (s203.1 1021 0)) = true then
    bd2 (fM_openBox s203 (s203.1 1020 (ix (x4 + (cI 1)))) (s203.1 1020 (ix (x4 + (cI 2))))) fun s205 v206 =>
    if v204 = v206 then
      fLaw_b3122 (fLaw_h23 n) s205 x4
    else
      some (s205, (cI 0))
    else none
    else none
    else none
    else none) := by
  unfold fLaw_h23
  rw [if_pos h1, if_pos h2, h]
  rfl
theorem lw_53 (h1 : x4 ≤ s.1 1021 0 - cI 7) (h2 : inb x4 (ix (s.1 1021 0)) = true) (h : ((s.1 1020 (ix x4)) &&& (cI 127)) = cI 53) : fLaw_h23 (n + 1) s x4 = (
    if inb (x4 + (cI 1)) (ix (s.1 1021 0)) = true then
    bd2 (fPH_lose s (s.1 1020 (ix (x4 + (cI 1))))) fun s207 v208 =>
    if inb (x4 + (cI 1)) (ix (s207.1 1021 0)) = true then
    bd2 (fM_lose s207 (s207.1 1020 (ix (x4 + (cI 1))))) fun s209 v210 =>
    if v208 = v210 then
      fLaw_b3122 (fLaw_h23 n) s209 x4
    else
      some (s209, (cI 0))
    else none
    else none) := by
  unfold fLaw_h23
  rw [if_pos h1, if_pos h2, h]
  rfl
theorem lw_54 (h1 : x4 ≤ s.1 1021 0 - cI 7) (h2 : inb x4 (ix (s.1 1021 0)) = true) (h : ((s.1 1020 (ix x4)) &&& (cI 127)) = cI 54) : fLaw_h23 (n + 1) s x4 = (
    if inb (x4 + (cI 1)) (ix (s.1 1021 0)) = true then
    bd2 (fPH_account s (s.1 1020 (ix (x4 + (cI 1))))) fun s211 v212 =>
    if inb (x4 + (cI 1)) (ix (s211.1 1021 0)) = true then
    bd2 (fM_account s211 (s211.1 1020 (ix (x4 + (cI 1))))) fun s213 v214 =>
    if v212 = v214 then
      fLaw_b3122 (fLaw_h23 n) s213 x4
    else
      some (s213, (cI 0))
    else none
    else none) := by
  unfold fLaw_h23
  rw [if_pos h1, if_pos h2, h]
  rfl
theorem lw_55 (h1 : x4 ≤ s.1 1021 0 - cI 7) (h2 : inb x4 (ix (s.1 1021 0)) = true) (h : ((s.1 1020 (ix x4)) &&& (cI 127)) = cI 55) : fLaw_h23 (n + 1) s x4 = (
    if inb (x4 + (cI 1)) (ix (s.1 1021 0)) = true then
    if inb (x4 + (cI 2)) (ix (s.1 1021 0)) = true then
    bd2 (fPH_deposit s (s.1 1020 (ix (x4 + (cI 1)))) (s.1 1020 (ix (x4 + (cI 2))))) fun s215 v216 =>
    if inb (x4 + (cI 1)) (ix (s215.1 1021 0)) = true then
    if inb (x4 + (cI 2)) (ix (s215.1 1021 0)) = true then
    bd2 (fM_deposit s215 (s215.1 1020 (ix (x4 + (cI 1)))) (s215.1 1020 (ix (x4 + (cI 2))))) fun s217 v218 =>
    if v216 = v218 then
      fLaw_b3122 (fLaw_h23 n) s217 x4
    else
      some (s217, (cI 0))
    else none
    else none
    else none
    else none) := by
  unfold fLaw_h23
  rw [if_pos h1, if_pos h2, h]
  rfl
theorem lw_56 (h1 : x4 ≤ s.1 1021 0 - cI 7) (h2 : inb x4 (ix (s.1 1021 0)) = true) (h : ((s.1 1020 (ix x4)) &&& (cI 127)) = cI 56) : fLaw_h23 (n + 1) s x4 = (
    if inb (x4 + (cI 1)) (ix (s.1 1021 0)) = true then
    bd1 (fPH_balance s (s.1 1020 (ix (x4 + (cI 1))))) fun v219 =>
    if inb (x4 + (cI 1)) (ix (s.1 1021 0)) = true then
    bd2 (fM_balance s (s.1 1020 (ix (x4 + (cI 1))))) fun s220 v221 =>
    if (lg_cmp v219 v221) = 0 then
      fLaw_b3122 (fLaw_h23 n) s220 x4
    else
      some (s220, (cI 0))
    else none
    else none) := by
  unfold fLaw_h23
  rw [if_pos h1, if_pos h2, h]
  rfl
theorem lw_57 (h1 : x4 ≤ s.1 1021 0 - cI 7) (h2 : inb x4 (ix (s.1 1021 0)) = true) (h : ((s.1 1020 (ix x4)) &&& (cI 127)) = cI 57) : fLaw_h23 (n + 1) s x4 = (
    if inb (x4 + (cI 1)) (ix (s.1 1021 0)) = true then
    if inb (x4 + (cI 2)) (ix (s.1 1021 0)) = true then
    bd1 (fPH_entry s (s.1 1020 (ix (x4 + (cI 1)))) (s.1 1020 (ix (x4 + (cI 2))))) fun v222 =>
    if inb (x4 + (cI 1)) (ix (s.1 1021 0)) = true then
    if inb (x4 + (cI 2)) (ix (s.1 1021 0)) = true then
    bd2 (fM_entry s (s.1 1020 (ix (x4 + (cI 1)))) (s.1 1020 (ix (x4 + (cI 2))))) fun s223 v224 =>
    if v222 = v224 then
      fLaw_b3122 (fLaw_h23 n) s223 x4
    else
      some (s223, (cI 0))
    else none
    else none
    else none
    else none) := by
  unfold fLaw_h23
  rw [if_pos h1, if_pos h2, h]
  rfl
theorem lw_58 (h1 : x4 ≤ s.1 1021 0 - cI 7) (h2 : inb x4 (ix (s.1 1021 0)) = true) (h : ((s.1 1020 (ix x4)) &&& (cI 127)) = cI 58) : fLaw_h23 (n + 1) s x4 = (
    bd2 (fPH_tariff s) fun s225 v226 =>
    bd2 (fM_tariff s225) fun s227 v228 =>
    if v226 = v228 then
      fLaw_b3122 (fLaw_h23 n) s227 x4
    else
      some (s227, (cI 0))) := by
  unfold fLaw_h23
  rw [if_pos h1, if_pos h2, h]
  rfl
theorem lw_59 (h1 : x4 ≤ s.1 1021 0 - cI 7) (h2 : inb x4 (ix (s.1 1021 0)) = true) (h : ((s.1 1020 (ix x4)) &&& (cI 127)) = cI 59) : fLaw_h23 (n + 1) s x4 = (
    if inb (x4 + (cI 1)) (ix (s.1 1021 0)) = true then
    bd1 (fPH_price s (s.1 1020 (ix (x4 + (cI 1))))) fun v229 =>
    if inb (x4 + (cI 1)) (ix (s.1 1021 0)) = true then
    bd2 (fM_price s (s.1 1020 (ix (x4 + (cI 1))))) fun s230 v231 =>
    if v229 = v231 then
      fLaw_b3122 (fLaw_h23 n) s230 x4
    else
      some (s230, (cI 0))
    else none
    else none) := by
  unfold fLaw_h23
  rw [if_pos h1, if_pos h2, h]
  rfl
theorem lw_60 (h1 : x4 ≤ s.1 1021 0 - cI 7) (h2 : inb x4 (ix (s.1 1021 0)) = true) (h : ((s.1 1020 (ix x4)) &&& (cI 127)) = cI 60) : fLaw_h23 (n + 1) s x4 = (
    if inb (x4 + (cI 1)) (ix (s.1 1021 0)) = true then
    bd2 (fPH_frank s (s.1 1020 (ix (x4 + (cI 1))))) fun s232 v233 =>
    if inb (x4 + (cI 1)) (ix (s232.1 1021 0)) = true then
    bd2 (fM_frank s232 (s232.1 1020 (ix (x4 + (cI 1))))) fun s234 v235 =>
    if v233 = v235 then
      fLaw_b3122 (fLaw_h23 n) s234 x4
    else
      some (s234, (cI 0))
    else none
    else none) := by
  unfold fLaw_h23
  rw [if_pos h1, if_pos h2, h]
  rfl
theorem lw_61 (h1 : x4 ≤ s.1 1021 0 - cI 7) (h2 : inb x4 (ix (s.1 1021 0)) = true) (h : ((s.1 1020 (ix x4)) &&& (cI 127)) = cI 61) : fLaw_h23 (n + 1) s x4 = (
    if inb (x4 + (cI 1)) (ix (s.1 1021 0)) = true then
    if inb (x4 + (cI 2)) (ix (s.1 1021 0)) = true then
    if inb (x4 + (cI 3)) (ix (s.1 1021 0)) = true then
    bd2 (fPH_order s (s.1 1020 (ix (x4 + (cI 1)))) (s.1 1020 (ix (x4 + (cI 2)))) (s.1 1020 (ix (x4 + (cI 3))))) fun s236 v237 =>
    if inb (x4 + (cI 1)) (ix (s236.1 1021 0)) = true then
    if inb (x4 + (cI 2)) (ix (s236.1 1021 0)) = true then
    if inb (x4 + (cI 3)) (ix (s236.1 1021 0)) = true then
    bd2 (fM_order s236 (s236.1 1020 (ix (x4 + (cI 1)))) (s236.1 1020 (ix (x4 + (cI 2)))) (s236.1 1020 (ix (x4 + (cI 3))))) fun s238 v239 =>
    if v237 = v239 then
      fLaw_b3122 (fLaw_h23 n) s238 x4
    else
      some (s238, (cI 0))
    else none
    else none
    else none
    else none
    else none
    else none) := by
  unfold fLaw_h23
  rw [if_pos h1, if_pos h2, h]
  rfl
theorem lw_62 (h1 : x4 ≤ s.1 1021 0 - cI 7) (h2 : inb x4 (ix (s.1 1021 0)) = true) (h : ((s.1 1020 (ix x4)) &&& (cI 127)) = cI 62) : fLaw_h23 (n + 1) s x4 = (
    if inb (x4 + (cI 1)) (ix (s.1 1021 0)) = true then
    if inb (x4 + (cI 2)) (ix (s.1 1021 0)) = true then
    if inb (x4 + (cI 3)) (ix (s.1 1021 0)) = true then
    bd2 (fPH_payOut s (s.1 1020 (ix (x4 + (cI 1)))) (s.1 1020 (ix (x4 + (cI 2)))) (s.1 1020 (ix (x4 + (cI 3))))) fun s240 v241 =>
    if inb (x4 + (cI 1)) (ix (s240.1 1021 0)) = true then
    if inb (x4 + (cI 2)) (ix (s240.1 1021 0)) = true then
    if inb (x4 + (cI 3)) (ix (s240.1 1021 0)) = true then
    bd2 (fM_payOut s240 (s240.1 1020 (ix (x4 + (cI 1)))) (s240.1 1020 (ix (x4 + (cI 2)))) (s240.1 1020 (ix (x4 + (cI 3))))) fun s242 v243 =>
    if v241 = v243 then
      fLaw_b3122 (fLaw_h23 n) s242 x4
    else
      some (s242, (cI 0))
    else none
    else none
    else none
    else none
    else none
    else none) := by
  unfold fLaw_h23
  rw [if_pos h1, if_pos h2, h]
  rfl
theorem lw_63 (h1 : x4 ≤ s.1 1021 0 - cI 7) (h2 : inb x4 (ix (s.1 1021 0)) = true) (h : ((s.1 1020 (ix x4)) &&& (cI 127)) = cI 63) : fLaw_h23 (n + 1) s x4 = (
    if inb (x4 + (cI 1)) (ix (s.1 1021 0)) = true then
    if inb (x4 + (cI 2)) (ix (s.1 1021 0)) = true then
    bd1 (fPH_orderAt s (s.1 1020 (ix (x4 + (cI 1)))) (s.1 1020 (ix (x4 + (cI 2))))) fun v244 =>
    if inb (x4 + (cI 1)) (ix (s.1 1021 0)) = true then
    if inb (x4 + (cI 2)) (ix (s.1 1021 0)) = true then
    bd2 (fM_orderAt s (s.1 1020 (ix (x4 + (cI 1)))) (s.1 1020 (ix (x4 + (cI 2))))) fun s245 v246 =>
    if v244 = v246 then
      fLaw_b3122 (fLaw_h23 n) s245 x4
    else
      some (s245, (cI 0))
    else none
    else none
    else none
    else none) := by
  unfold fLaw_h23
  rw [if_pos h1, if_pos h2, h]
  rfl
theorem lw_64 (h1 : x4 ≤ s.1 1021 0 - cI 7) (h2 : inb x4 (ix (s.1 1021 0)) = true) (h : ((s.1 1020 (ix x4)) &&& (cI 127)) = cI 64) : fLaw_h23 (n + 1) s x4 = (
    if inb (x4 + (cI 1)) (ix (s.1 1021 0)) = true then
    if inb (x4 + (cI 2)) (ix (s.1 1021 0)) = true then
    bd2 (fPH_claim s (s.1 1020 (ix (x4 + (cI 1)))) (s.1 1020 (ix (x4 + (cI 2))))) fun s247 v248 =>
    if inb (x4 + (cI 1)) (ix (s247.1 1021 0)) = true then
    if inb (x4 + (cI 2)) (ix (s247.1 1021 0)) = true then
    bd2 (fM_claim s247 (s247.1 1020 (ix (x4 + (cI 1)))) (s247.1 1020 (ix (x4 + (cI 2))))) fun s249 v250 =>
    if v248 = v250 then
      fLaw_b3122 (fLaw_h23 n) s249 x4
    else
      some (s249, (cI 0))
    else none
    else none
    else none
    else none) := by
  unfold fLaw_h23
  rw [if_pos h1, if_pos h2, h]
  rfl
theorem lw_65 (h1 : x4 ≤ s.1 1021 0 - cI 7) (h2 : inb x4 (ix (s.1 1021 0)) = true) (h : ((s.1 1020 (ix x4)) &&& (cI 127)) = cI 65) : fLaw_h23 (n + 1) s x4 = (
    if inb (x4 + (cI 1)) (ix (s.1 1021 0)) = true then
    if inb (x4 + (cI 2)) (ix (s.1 1021 0)) = true then
    bd2 (fPH_locker s (s.1 1020 (ix (x4 + (cI 1)))) (s.1 1020 (ix (x4 + (cI 2))))) fun s251 v252 =>
    if inb (x4 + (cI 1)) (ix (s251.1 1021 0)) = true then
    if inb (x4 + (cI 2)) (ix (s251.1 1021 0)) = true then
    bd2 (fM_locker s251 (s251.1 1020 (ix (x4 + (cI 1)))) (s251.1 1020 (ix (x4 + (cI 2))))) fun s253 v254 =>
    if v252 = v254 then
      fLaw_b3122 (fLaw_h23 n) s253 x4
    else
      some (s253, (cI 0))
    else none
    else none
    else none
    else none) := by
  unfold fLaw_h23
  rw [if_pos h1, if_pos h2, h]
  rfl
theorem lw_66 (h1 : x4 ≤ s.1 1021 0 - cI 7) (h2 : inb x4 (ix (s.1 1021 0)) = true) (h : ((s.1 1020 (ix x4)) &&& (cI 127)) = cI 66) : fLaw_h23 (n + 1) s x4 = (
    if inb (x4 + (cI 1)) (ix (s.1 1021 0)) = true then
    if inb (x4 + (cI 2)) (ix (s.1 1021 0)) = true then
    bd1 (fPH_lockerAt s (s.1 1020 (ix (x4 + (cI 1)))) (s.1 1020 (ix (x4 + (cI 2))))) fun v255 =>
    if inb (x4 + (cI 1)) (ix (s.1 1021 0)) = true then
    if inb (x4 + (cI 2)) (ix (s.1 1021 0)) = true then
    bd2 (fM_lockerAt s (s.1 1020 (ix (x4 + (cI 1)))) (s.1 1020 (ix (x4 + (cI 2))))) fun s256 v257 =>
    if v255 = v257 then
      fLaw_b3122 (fLaw_h23 n) s256 x4
    else
      some (s256, (cI 0))
    else none
    else none
    else none
    else none) := by
  unfold fLaw_h23
  rw [if_pos h1, if_pos h2, h]
  rfl
theorem lw_67 (h1 : x4 ≤ s.1 1021 0 - cI 7) (h2 : inb x4 (ix (s.1 1021 0)) = true) (h : ((s.1 1020 (ix x4)) &&& (cI 127)) = cI 67) : fLaw_h23 (n + 1) s x4 = (
    if inb (x4 + (cI 1)) (ix (s.1 1021 0)) = true then
    if inb (x4 + (cI 2)) (ix (s.1 1021 0)) = true then
    bd2 (fPH_device s (s.1 1020 (ix (x4 + (cI 1)))) (s.1 1020 (ix (x4 + (cI 2))))) fun s258 v259 =>
    if inb (x4 + (cI 1)) (ix (s258.1 1021 0)) = true then
    if inb (x4 + (cI 2)) (ix (s258.1 1021 0)) = true then
    bd2 (fM_device s258 (s258.1 1020 (ix (x4 + (cI 1)))) (s258.1 1020 (ix (x4 + (cI 2))))) fun s260 v261 =>
    if v259 = v261 then
      fLaw_b3122 (fLaw_h23 n) s260 x4
    else
      some (s260, (cI 0))
    else none
    else none
    else none
    else none) := by
  unfold fLaw_h23
  rw [if_pos h1, if_pos h2, h]
  rfl
theorem lw_68 (h1 : x4 ≤ s.1 1021 0 - cI 7) (h2 : inb x4 (ix (s.1 1021 0)) = true) (h : ((s.1 1020 (ix x4)) &&& (cI 127)) = cI 68) : fLaw_h23 (n + 1) s x4 = (
    if inb (x4 + (cI 1)) (ix (s.1 1021 0)) = true then
    if inb (x4 + (cI 2)) (ix (s.1 1021 0)) = true then
    if inb (x4 + (cI 3)) (ix (s.1 1021 0)) = true then
    if inb (x4 + (cI 4)) (ix (s.1 1021 0)) = true then
    bd2 (fPH_scanned s (s.1 1020 (ix (x4 + (cI 1)))) (s.1 1020 (ix (x4 + (cI 2)))) (s.1 1020 (ix (x4 + (cI 3)))) (s.1 1020 (ix (x4 + (cI 4))))) fun s262 v263 =>
    if inb (x4 + (cI 1)) (ix (s262.1 1021 0)) = true then
    if inb (x4 + (cI 2)) (ix (s262.1 1021 0)) = true then
    if inb (x4 + (cI 3)) (ix (s262.1 1021 0)) = true then
    if inb (x4 + (cI 4)) (ix (s262.1 1021 0)) = true then
    bd2 (fM_scanned s262 (s262.1 1020 (ix (x4 + (cI 1)))) (s262.1 1020 (ix (x4 + (cI 2)))) (s262.1 1020 (ix (x4 + (cI 3)))) (s262.1 1020 (ix (x4 + (cI 4))))) fun s264 v265 =>
    if v263 = v265 then
      fLaw_b3122 (fLaw_h23 n) s264 x4
    else
      some (s264, (cI 0))
    else none
    else none
    else none
    else none
    else none
    else none
    else none
    else none) := by
  unfold fLaw_h23
  rw [if_pos h1, if_pos h2, h]
  rfl
theorem lw_69 (h1 : x4 ≤ s.1 1021 0 - cI 7) (h2 : inb x4 (ix (s.1 1021 0)) = true) (h : ((s.1 1020 (ix x4)) &&& (cI 127)) = cI 69) : fLaw_h23 (n + 1) s x4 = (
    if inb (x4 + (cI 1)) (ix (s.1 1021 0)) = true then
    if inb (x4 + (cI 2)) (ix (s.1 1021 0)) = true then
    if inb (x4 + (cI 3)) (ix (s.1 1021 0)) = true then
    bd1 (fPH_trace s (s.1 1020 (ix (x4 + (cI 1)))) (s.1 1020 (ix (x4 + (cI 2)))) (s.1 1020 (ix (x4 + (cI 3))))) fun v266 =>
    if inb (x4 + (cI 1)) (ix (s.1 1021 0)) = true then
    if inb (x4 + (cI 2)) (ix (s.1 1021 0)) = true then
    if inb (x4 + (cI 3)) (ix (s.1 1021 0)) = true then
    bd2 (fM_trace s (s.1 1020 (ix (x4 + (cI 1)))) (s.1 1020 (ix (x4 + (cI 2)))) (s.1 1020 (ix (x4 + (cI 3))))) fun s267 v268 =>
    if v266 = v268 then
      fLaw_b3122 (fLaw_h23 n) s267 x4
    else
      some (s267, (cI 0))
    else none
    else none
    else none
    else none
    else none
    else none) := by
  unfold fLaw_h23
  rw [if_pos h1, if_pos h2, h]
  rfl
theorem lw_70 (h1 : x4 ≤ s.1 1021 0 - cI 7) (h2 : inb x4 (ix (s.1 1021 0)) = true) (h : ((s.1 1020 (ix x4)) &&& (cI 127)) = cI 70) : fLaw_h23 (n + 1) s x4 = (
    if inb (x4 + (cI 1)) (ix (s.1 1021 0)) = true then
    if inb (x4 + (cI 2)) (ix (s.1 1021 0)) = true then
    if inb (x4 + (cI 3)) (ix (s.1 1021 0)) = true then
    if (s.1 1020 (ix (x4 + (cI 3)))) = 0 then
      fLaw_b2996 (fLaw_h23 n) s x4 (s.1 1020 (ix (x4 + (cI 1)))) (s.1 1020 (ix (x4 + (cI 2)))) (cI 0)
    else
      fLaw_b2996 (fLaw_h23 n) s x4 (s.1 1020 (ix (x4 + (cI 1)))) (s.1 1020 (ix (x4 + (cI 2)))) (cI 1)
    else none
    else none
    else none) := by
  unfold fLaw_h23
  rw [if_pos h1, if_pos h2, h]
  rfl
theorem lw_71 (h1 : x4 ≤ s.1 1021 0 - cI 7) (h2 : inb x4 (ix (s.1 1021 0)) = true) (h : ((s.1 1020 (ix x4)) &&& (cI 127)) = cI 71) : fLaw_h23 (n + 1) s x4 = (
    if inb (x4 + (cI 1)) (ix (s.1 1021 0)) = true then
    if inb (x4 + (cI 2)) (ix (s.1 1021 0)) = true then
    bd1 (fPH_notice s (s.1 1020 (ix (x4 + (cI 1)))) (s.1 1020 (ix (x4 + (cI 2))))) fun v269 =>
    if inb (x4 + (cI 1)) (ix (s.1 1021 0)) = true then
    if inb (x4 + (cI 2)) (ix (s.1 1021 0)) = true then
    bd2 (fM_notice s (s.1 1020 (ix (x4 + (cI 1)))) (s.1 1020 (ix (x4 + (cI 2))))) fun s270 v271 =>
    if v269 = v271 then
      fLaw_b3122 (fLaw_h23 n) s270 x4
    else
      some (s270, (cI 0))
    else none
    else none
    else none
    else none) := by
  unfold fLaw_h23
  rw [if_pos h1, if_pos h2, h]
  rfl
theorem lw_72 (h1 : x4 ≤ s.1 1021 0 - cI 7) (h2 : inb x4 (ix (s.1 1021 0)) = true) (h : ((s.1 1020 (ix x4)) &&& (cI 127)) = cI 72) : fLaw_h23 (n + 1) s x4 = (
    if inb (x4 + (cI 1)) (ix (s.1 1021 0)) = true then
    bd2 (fPH_tick s (s.1 1020 (ix (x4 + (cI 1))))) fun s272 v273 =>
    if inb (x4 + (cI 1)) (ix (s272.1 1021 0)) = true then
    bd2 (fM_tick s272 (s272.1 1020 (ix (x4 + (cI 1))))) fun s274 v275 =>
    if v273 = v275 then
      fLaw_b3122 (fLaw_h23 n) s274 x4
    else
      some (s274, (cI 0))
    else none
    else none) := by
  unfold fLaw_h23
  rw [if_pos h1, if_pos h2, h]
  rfl
theorem lw_73 (h1 : x4 ≤ s.1 1021 0 - cI 7) (h2 : inb x4 (ix (s.1 1021 0)) = true) (h : ((s.1 1020 (ix x4)) &&& (cI 127)) = cI 73) : fLaw_h23 (n + 1) s x4 = (
    bd1 (fPH_now s) fun v276 =>
    bd2 (fM_now s) fun s277 v278 =>
    if v276 = v278 then
      fLaw_b3122 (fLaw_h23 n) s277 x4
    else
      some (s277, (cI 0))) := by
  unfold fLaw_h23
  rw [if_pos h1, if_pos h2, h]
  rfl
theorem lw_74 (h1 : x4 ≤ s.1 1021 0 - cI 7) (h2 : inb x4 (ix (s.1 1021 0)) = true) (h : ((s.1 1020 (ix x4)) &&& (cI 127)) = cI 74) : fLaw_h23 (n + 1) s x4 = (
    bd2 (fPH_audit s) fun s279 v280 =>
    bd2 (fM_audit s279) fun s281 v282 =>
    if v280 = v282 then
      fLaw_b3122 (fLaw_h23 n) s281 x4
    else
      some (s281, (cI 0))) := by
  unfold fLaw_h23
  rw [if_pos h1, if_pos h2, h]
  rfl
theorem lw_end (h1 : ¬ x4 ≤ s.1 1021 0 - cI 7) : fLaw_h23 (n + 1) s x4 = some (s, cI 1) := by
  unfold fLaw_h23
  rw [if_neg h1]
theorem lw_no (h1 : x4 ≤ s.1 1021 0 - cI 7) (h2 : inb x4 (ix (s.1 1021 0)) = true) (g0 : ¬ ((s.1 1020 (ix x4)) &&& (cI 127)) = cI 0) (g1 : ¬ ((s.1 1020 (ix x4)) &&& (cI 127)) = cI 1) (g2 : ¬ ((s.1 1020 (ix x4)) &&& (cI 127)) = cI 2) (g3 : ¬ ((s.1 1020 (ix x4)) &&& (cI 127)) = cI 3) (g4 : ¬ ((s.1 1020 (ix x4)) &&& (cI 127)) = cI 4) (g5 : ¬ ((s.1 1020 (ix x4)) &&& (cI 127)) = cI 5) (g6 : ¬ ((s.1 1020 (ix x4)) &&& (cI 127)) = cI 6) (g7 : ¬ ((s.1 1020 (ix x4)) &&& (cI 127)) = cI 7) (g8 : ¬ ((s.1 1020 (ix x4)) &&& (cI 127)) = cI 8) (g9 : ¬ ((s.1 1020 (ix x4)) &&& (cI 127)) = cI 9) (g10 : ¬ ((s.1 1020 (ix x4)) &&& (cI 127)) = cI 10) (g11 : ¬ ((s.1 1020 (ix x4)) &&& (cI 127)) = cI 11) (g12 : ¬ ((s.1 1020 (ix x4)) &&& (cI 127)) = cI 12) (g13 : ¬ ((s.1 1020 (ix x4)) &&& (cI 127)) = cI 13) (g14 : ¬ ((s.1 1020 (ix x4)) &&& (cI 127)) = cI 14) (g15 : ¬ ((s.1 1020 (ix x4)) &&& (cI 127)) = cI 15) (g16 : ¬ ((s.1 1020 (ix x4)) &&& (cI 127)) = cI 16) (g17 : ¬ ((s.1 1020 (ix x4)) &&& (cI 127)) = cI 17) (g18 : ¬ ((s.1 1020 (ix x4)) &&& (cI 127)) = cI 18) (g19 : ¬ ((s.1 1020 (ix x4)) &&& (cI 127)) = cI 19) (g20 : ¬ ((s.1 1020 (ix x4)) &&& (cI 127)) = cI 20) (g21 : ¬ ((s.1 1020 (ix x4)) &&& (cI 127)) = cI 21) (g22 : ¬ ((s.1 1020 (ix x4)) &&& (cI 127)) = cI 22) (g23 : ¬ ((s.1 1020 (ix x4)) &&& (cI 127)) = cI 23) (g24 : ¬ ((s.1 1020 (ix x4)) &&& (cI 127)) = cI 24) (g25 : ¬ ((s.1 1020 (ix x4)) &&& (cI 127)) = cI 25) (g26 : ¬ ((s.1 1020 (ix x4)) &&& (cI 127)) = cI 26) (g27 : ¬ ((s.1 1020 (ix x4)) &&& (cI 127)) = cI 27) (g28 : ¬ ((s.1 1020 (ix x4)) &&& (cI 127)) = cI 28) (g29 : ¬ ((s.1 1020 (ix x4)) &&& (cI 127)) = cI 29) (g30 : ¬ ((s.1 1020 (ix x4)) &&& (cI 127)) = cI 30) (g31 : ¬ ((s.1 1020 (ix x4)) &&& (cI 127)) = cI 31) (g32 : ¬ ((s.1 1020 (ix x4)) &&& (cI 127)) = cI 32) (g33 : ¬ ((s.1 1020 (ix x4)) &&& (cI 127)) = cI 33) (g34 : ¬ ((s.1 1020 (ix x4)) &&& (cI 127)) = cI 34) (g35 : ¬ ((s.1 1020 (ix x4)) &&& (cI 127)) = cI 35) (g36 : ¬ ((s.1 1020 (ix x4)) &&& (cI 127)) = cI 36) (g37 : ¬ ((s.1 1020 (ix x4)) &&& (cI 127)) = cI 37) (g38 : ¬ ((s.1 1020 (ix x4)) &&& (cI 127)) = cI 38) (g39 : ¬ ((s.1 1020 (ix x4)) &&& (cI 127)) = cI 39) (g40 : ¬ ((s.1 1020 (ix x4)) &&& (cI 127)) = cI 40) (g41 : ¬ ((s.1 1020 (ix x4)) &&& (cI 127)) = cI 41) (g42 : ¬ ((s.1 1020 (ix x4)) &&& (cI 127)) = cI 42) (g43 : ¬ ((s.1 1020 (ix x4)) &&& (cI 127)) = cI 43) (g44 : ¬ ((s.1 1020 (ix x4)) &&& (cI 127)) = cI 44) (g45 : ¬ ((s.1 1020 (ix x4)) &&& (cI 127)) = cI 45) (g46 : ¬ ((s.1 1020 (ix x4)) &&& (cI 127)) = cI 46) (g47 : ¬ ((s.1 1020 (ix x4)) &&& (cI 127)) = cI 47) (g48 : ¬ ((s.1 1020 (ix x4)) &&& (cI 127)) = cI 48) (g49 : ¬ ((s.1 1020 (ix x4)) &&& (cI 127)) = cI 49) (g50 : ¬ ((s.1 1020 (ix x4)) &&& (cI 127)) = cI 50) (g51 : ¬ ((s.1 1020 (ix x4)) &&& (cI 127)) = cI 51) (g52 : ¬ ((s.1 1020 (ix x4)) &&& (cI 127)) = cI 52) (g53 : ¬ ((s.1 1020 (ix x4)) &&& (cI 127)) = cI 53) (g54 : ¬ ((s.1 1020 (ix x4)) &&& (cI 127)) = cI 54) (g55 : ¬ ((s.1 1020 (ix x4)) &&& (cI 127)) = cI 55) (g56 : ¬ ((s.1 1020 (ix x4)) &&& (cI 127)) = cI 56) (g57 : ¬ ((s.1 1020 (ix x4)) &&& (cI 127)) = cI 57) (g58 : ¬ ((s.1 1020 (ix x4)) &&& (cI 127)) = cI 58) (g59 : ¬ ((s.1 1020 (ix x4)) &&& (cI 127)) = cI 59) (g60 : ¬ ((s.1 1020 (ix x4)) &&& (cI 127)) = cI 60) (g61 : ¬ ((s.1 1020 (ix x4)) &&& (cI 127)) = cI 61) (g62 : ¬ ((s.1 1020 (ix x4)) &&& (cI 127)) = cI 62) (g63 : ¬ ((s.1 1020 (ix x4)) &&& (cI 127)) = cI 63) (g64 : ¬ ((s.1 1020 (ix x4)) &&& (cI 127)) = cI 64) (g65 : ¬ ((s.1 1020 (ix x4)) &&& (cI 127)) = cI 65) (g66 : ¬ ((s.1 1020 (ix x4)) &&& (cI 127)) = cI 66) (g67 : ¬ ((s.1 1020 (ix x4)) &&& (cI 127)) = cI 67) (g68 : ¬ ((s.1 1020 (ix x4)) &&& (cI 127)) = cI 68) (g69 : ¬ ((s.1 1020 (ix x4)) &&& (cI 127)) = cI 69) (g70 : ¬ ((s.1 1020 (ix x4)) &&& (cI 127)) = cI 70) (g71 : ¬ ((s.1 1020 (ix x4)) &&& (cI 127)) = cI 71) (g72 : ¬ ((s.1 1020 (ix x4)) &&& (cI 127)) = cI 72) (g73 : ¬ ((s.1 1020 (ix x4)) &&& (cI 127)) = cI 73) (g74 : ¬ ((s.1 1020 (ix x4)) &&& (cI 127)) = cI 74) : fLaw_h23 (n + 1) s x4 = fLaw_b3122 (fLaw_h23 n) s x4 := by
  unfold fLaw_h23
  rw [if_pos h1, if_pos h2, if_neg g0, if_neg g1, if_neg g2, if_neg g3, if_neg g4, if_neg g5, if_neg g6, if_neg g7, if_neg g8, if_neg g9, if_neg g10, if_neg g11, if_neg g12, if_neg g13, if_neg g14, if_neg g15, if_neg g16, if_neg g17, if_neg g18, if_neg g19, if_neg g20, if_neg g21, if_neg g22, if_neg g23, if_neg g24, if_neg g25, if_neg g26, if_neg g27, if_neg g28, if_neg g29, if_neg g30, if_neg g31, if_neg g32, if_neg g33, if_neg g34, if_neg g35, if_neg g36, if_neg g37, if_neg g38, if_neg g39, if_neg g40, if_neg g41, if_neg g42, if_neg g43, if_neg g44, if_neg g45, if_neg g46, if_neg g47, if_neg g48, if_neg g49, if_neg g50, if_neg g51, if_neg g52, if_neg g53, if_neg g54, if_neg g55, if_neg g56, if_neg g57, if_neg g58, if_neg g59, if_neg g60, if_neg g61, if_neg g62, if_neg g63, if_neg g64, if_neg g65, if_neg g66, if_neg g67, if_neg g68, if_neg g69, if_neg g70, if_neg g71, if_neg g72, if_neg g73, if_neg g74]
end
