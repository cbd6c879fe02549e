/-! ===== the law's own four, where nothing is thrown ===== -/
theorem lw9_ok (M9 : Nat) (h1 : 544 ≤ M9) (h2 : M9 < 548) : (nam9 M9).cls = cnm 13 ∧ frm9 M9 = 12 ∧ lco9 M9 = 290 ∧ (dat9 M9).1 ≤ 8 ∧ plainFor (nam9 M9) = true ∧ (nam9 M9).cls ≠ "java/lang/invoke/MethodHandle" ∧ (nam9 M9).cls ≠ "java/lang/invoke/VarHandle" := by
  obtain ⟨i, rfl⟩ : ∃ i, M9 = 544 + i := ⟨M9 - 544, by omega⟩
  match i, h2 with
  | 0, _ => exact ⟨rfl, rfl, rfl, by decide, by decide +kernel, by decide +kernel, by decide +kernel⟩
  | 1, _ => exact ⟨rfl, rfl, rfl, by decide, by decide +kernel, by decide +kernel, by decide +kernel⟩
  | 2, _ => exact ⟨rfl, rfl, rfl, by decide, by decide +kernel, by decide +kernel, by decide +kernel⟩
  | 3, _ => exact ⟨rfl, rfl, rfl, by decide, by decide +kernel, by decide +kernel, by decide +kernel⟩
  | n + 4, h2 => exact absurd h2 (by omega)
section L4
variable {D : va_G} {cA : Nat → ClassId} {ad : Nat → Nat} {base : Nat} {EX : State → Prop} {stc : Nat → Nat → Int32}
variable {p : Program} {l : Launch} {e : Env} {R : Room} {s : State} {m : MethodId} {args : Array Value} {below : List Frame} {meth : Method} {c : Code} {Q : State → Prop} {c0 s0 : Nat} {out : ev_O}
variable {pc idx na : Nat} {k : ev_K} {L : ev_L} {x : ev_M}
theorem w_L9 {M9 : Nat} {hh : List (Nat × Nat × Nat × Nat)} {as st' : List ev_V} {o : ev_O} (h1 : 544 ≤ M9) (h2 : M9 < 548) (hX9 : ∀ F, so_X shpT ftyT clsT ad base cod9 dat9 (prm9 F) bys9 nam9 rty9 frm9 lco9 TsT nwsT stsT) (hS9 : ∀ F f, so_Sim shpT rfT ftyT D clsT cA ad base stc cod9 dat9 (prm9 F) bys9 nam9 rty9 frm9 lco9 TsT nwsT stsT EX l false f)
    (hF : so_F shpT D clsT cA ad base stc datT bysT namT frmT lcoT TsT nwsT stsT EX p R s m args meth c 539) (hcode : Cond.codeWith (nam9 M9) (bys9 M9) (dat9 M9).1 (rty9 M9) hh ∈ TsT) (hlk : Cond.methodLink (cnm 13) idx (nam9 M9) ∈ TsT) (hst : Cond.static (nam9 M9) ∈ TsT) (hdd : (parseMethodDescriptor (nam9 M9).desc).map (fun d => d.parameters.length) = some na) (hRR : sn_R R c0 s0 out) (hm : ev_mk out k) (hk : sn_K shpT rfT ftyT D clsT cA ad base stc p l e R s m args below meth c Q false c0 s0 (datT 539).1 out k) (hd : decode (bysT 539) pc = .ok (.invokestatic idx, 3))
    (hlen : as.length = na) (hc : ev_cats as ≤ (dat9 M9).1) (h5 : ev_cats st' ≤ 8) (hT : RQ (fun F f => ev9 F f M9 0 (ev_ent as (dat9 M9).1) [] x) o) (h7 : k (pc + 3) L (o.2 ++ st') o.1 = some out) : sn_W shpT rfT ftyT D clsT cA ad base stc p l e R s m args below meth c Q false c0 s0 (datT 539).1 pc L (as.reverse ++ st') x := by
  intro H locs cells slots ls S
  obtain ⟨g0, h0⟩ := hT
  obtain ⟨f0, h9⟩ := h0 g0 (Nat.le_refl _)
  have h9 : ev shpT rfT cod9 dat9 (prm9 g0) false f0 M9 0 (ev_ent as (dat9 M9).1) [] x = some o := h9 f0 (Nat.le_refl _)
  obtain ⟨l1, l2, l3, l4, l5, l6, l7⟩ := lw9_ok M9 h1 h2
  have hs1 : ∀ v ∈ as, sn_okv shpT x.2.2.1 v := fun v hv => S.2.2.2.1 v (List.mem_append_left _ (List.mem_reverse.mpr hv))
  have hs2 : ∀ v ∈ st', sn_okv shpT x.2.2.1 v := fun v hv => S.2.2.2.1 v (List.mem_append_right _ hv)
  have hpn : prm9 g0 M9 = none := by
    unfold prm9
    cases hb : Nat.ble M9 539 with
    | false => rfl
    | true =>
      have := Nat.le_of_ble_eq_true hb
      omega
  have hle := ev_mono (hX9 g0).2.2.2.2.2.2.2.2.2.2.1 f0 M9 0 _ [] x o h9
  have hM := so_metW (hh := hh) (hX9 g0) (hS9 g0 f0) hpn hc hs1 h9
  have hle2 := hm _ _ _ _ h7
  obtain ⟨Fx, hnm, hWK, hRf, hRl⟩ := id hF
  have hown : (namT 539).cls = cnm 13 := rfl
  rw [hown] at Fx
  have hrest : 2 * (F0 m pc ls ((as.reverse ++ st').map (sn_v ad))).monitorRoom + ((st'.map (sn_v ad)).map fun v => v.category).sum ≤ 8 := lv_room (by rw [sn_cats]; exact h5)
  have hstk : (F0 m pc ls ((as.reverse ++ st').map (sn_v ad))).stack = (as.map (sn_v ad)).reverse ++ st'.map (sn_v ad) := by
    show (as.reverse ++ st').map (sn_v ad) = _
    rw [List.map_append, List.map_reverse]
  have hcs : cells + (o.1.2.2.2.2.1 - x.2.2.2.2.1) ≤ R.cells ∧ slots + (o.1.2.2.2.2.2 - x.2.2.2.2.2) ≤ R.slots := by
    have z1 := S.2.2.2.2.1
    have z2 := S.2.2.2.2.2
    have z3 := hle.2.1
    have z4 := hle.2.2
    have z5 := hle2.2.1
    have z6 := hle2.2.2
    have z7 := hRR.1
    have z8 := hRR.2
    omega
  have hG : GoodIn TsT (va_wsS (cnm 13) idx (nam9 M9) (Cond.codeWith (nam9 M9) (bys9 M9) (dat9 M9).1 (rty9 M9) hh :: TsT)) := fun w hw => by
    have h3 : w ∈ TsT := by
      rcases List.mem_append.mp hw with h | h
      · rcases List.mem_cons.mp h with rfl | h
        · exact hlk
        · rcases List.mem_cons.mp h with rfl | h
          · exact hst
          · rw [List.mem_singleton.mp h, l1]
            exact w9_iniL
      · rcases List.mem_cons.mp h with rfl | h
        · exact hcode
        · exact h
    exact ⟨h3, good_of_word (TsT_good w h3)⟩
  exact sn_after (vx_runSW (As := as.map (sn_v ad)) (rest := st'.map (sn_v ad)) Fx hM (vx_cwSW na Fx.2.2.2.2 hG rfl rfl rfl ⟨l6, l7, hdd⟩ ⟨by show frm9 M9 + 1 ≤ _; rw [hRf, l2]; decide, by show _ + lco9 M9 ≤ _; rw [hRl, l3]; have : lcoT 539 = 319 := rfl; omega⟩) ⟨sn_blind, sn_pre S.1 S.2.1 hWK⟩ rfl (by rw [List.length_map]; exact hlen) S.2.2.1.1 hstk hrest hd hcs) S hle hs2 hk h7
end L4
theorem f9_feed {s : ev_M} {a b c d e : Int32} {q : ev_M × Int32} (hn : ¬ cI 4096 < s.1 1 1 + cI 20) (h : fFeed s a b c d e = some q) : bd2 (fX_feed s a b c d e) (fun s v => some (wL s 681 0 v.toInt64, cI 0)) = some q := by
  unfold fFeed at h
  rw [if_neg hn] at h
  unfold fX_feed
  rw [if_pos (Int32.not_lt.mp hn)]
  obtain ⟨s1, h1, h⟩ := b1x h
  obtain ⟨s2, h2, h⟩ := b1x h
  obtain ⟨s3, h3, h⟩ := b1x h
  obtain ⟨s4, h4, h⟩ := b1x h
  obtain ⟨s5, h5, h⟩ := b1x h
  rw [h1]
  show bd2 (bd1 (fTape_append_1 s1 b) _) _ = _
  rw [h2]
  show bd2 (bd1 (fTape_append_1 s2 c) _) _ = _
  rw [h3]
  show bd2 (bd1 (fTape_append_1 s3 d) _) _ = _
  rw [h4]
  show bd2 (bd1 (fTape_append_1 s4 e) _) _ = _
  rw [h5]
  exact h
theorem f9_octet {s : ev_M} {b i t : Int32} {q : ev_M × Int32} (h1 : fLog_hasByte s b i = some t) (hn : ¬ t = 0) (h : fOctet s b i = some q) : bd1 (fX_octet s b i) (fun v => some (wL s 681 0 v.toInt64, cI 0)) = some q := by
  unfold fOctet at h
  unfold fX_octet
  rw [h1] at h ⊢
  have h : (if t = 0 then some (mkX s, cI 1) else bd1 (fLog_byteAt s b i) fun r => some (wL s 681 0 r.toInt64, cI 0)) = some q := h
  rw [if_neg hn] at h
  show bd1 (if t = 0 then none else fLog_byteAt s b i) _ = _
  rw [if_neg hn]
  exact h
theorem f9_poke {s : ev_M} {b i m t : Int32} {q : ev_M × Int32} (h1 : fLog_hasByte s b i = some t) (hn : ¬ t = 0) (h : fPoke s b i m = some q) : bd2 (fX_poke s b i m) (fun s v => some (wL s 681 0 v.toInt64, cI 0)) = some q := by
  unfold fPoke at h
  unfold fX_poke
  rw [h1] at h ⊢
  have h : (if t = 0 then some (mkX s, cI 1) else bd2 (fLog_change s b i m) fun s r => some (wL s 681 0 r.toInt64, cI 0)) = some q := h
  rw [if_neg hn] at h
  show bd2 (if t = 0 then none else fLog_change s b i m) _ = _
  rw [if_neg hn]
  exact h
theorem f9_end {s : ev_M} {n : Int32} {q : ev_M × Int32} (hn : ¬ (n < 0 ∨ s.1 1 1 < n)) (h : fEnd s n = some q) : bd1 (fX_end s n) (fun s => some (s, cI 0)) = some q := by
  unfold fEnd at h
  rw [if_neg hn] at h
  have h1 : fPH_outside s n (cI 0) (s.1 1 1) = some 0 := by
    unfold fPH_outside
    rw [if_neg (show ¬ n < cI 0 from fun z => hn (Or.inl z)), if_pos (Int32.not_lt.mp (fun z => hn (Or.inr z)))]
    rfl
  unfold fX_end
  rw [h1]
  show bd1 (if (0 : Int32) = 0 then some (wI s 1 1 n) else none) _ = _
  rw [if_pos rfl]
  exact h
