/-! ===== the state stays well ===== -/
section SK
variable {U : ST} {S : fs}
/-- at most n kinds of exceptions, and what is left is well -/
def spk (n : Nat) (o : RS) : Prop := o.1 ≤ n ∧ st_ok o.2.2
theorem st_rem (hU : st_ok U) (hS : fk S) : st_ok (S, (rem U).2) := by
  obtain ⟨h1, h2, h3, h4, h5, ⟨h6, h7⟩, h8⟩ := hU
  refine ⟨hS, h2, h3, h4, h5, ⟨Nat.min_le_left _ _, fun k hk => ?_⟩, h8⟩
  have hk : k < min 12 (U.2.2.2.2.2.1.1 + 1) := hk
  show fk (if k = 0 then U.1 else U.2.2.2.2.2.1.2 (k - 1))
  split
  · exact h1
  · exact h7 (k - 1) (by omega)
theorem st_drp (hU : st_ok U) {W : lw} (hS : fk S) (hW : lk W) : st_ok (drp (S, W, U.2.2)) := by
  obtain ⟨h1, h2, h3, h4, h5, ⟨h6, h7⟩, h8⟩ := hU
  exact ⟨hS, hW, h3, h4, h5, ⟨Nat.zero_le _, fun k hk => absurd hk (Nat.not_lt_zero k)⟩, h8⟩
theorem st_usd (hU : st_ok U) : st_ok (usd U) := ⟨hU.1, hU.2.1, hU.2.2.1, Nat.zero_le _, hU.2.2.2.2⟩
theorem st_flt (hU : st_ok U) {v : Nat} (hv : v ≤ 401) : st_ok (flt U v) := ⟨hU.1, hU.2.1, hU.2.2.1, Nat.zero_le _, hv, hU.2.2.2.2.2⟩
theorem fk_sr (hF : fk S) {j i v : Nat} (h13 : j ≠ 13) (hS : fo_ok (fo_sr S j i v)) : fk (fo_sr S j i v) := by
  refine ⟨hS, fun s p hs hp h => ?_, hF.2.2⟩
  show (if 13 = j ∧ s * 6 + p = i then v else S.2.1 13 (s * 6 + p)) = 0
  rw [if_neg (fun q => h13 q.1.symm)]
  exact hF.2.1 s p hs hp h
theorem fk_st (hF : fk S) {s p v : Nat} (hs : s < S.1 1) (hp : p < S.1 0) (hv : v < 64) : fk (fo_sr S 13 (s * 6 + p) v) := by
  have hn0 := hF.1.n0
  refine ⟨fo_ok_told hF.1 _ _ hv, fun s' p' hs' hp' h => ?_, hF.2.2⟩
  have h : S.1 1 ≤ s' ∨ S.1 0 ≤ p' := h
  show (if 13 = 13 ∧ s' * 6 + p' = s * 6 + p then v else S.2.1 13 (s' * 6 + p')) = 0
  rw [if_neg (by omega)]
  exact hF.2.1 s' p' hs' hp' h
theorem k_nights {x : Int32} (hU : st_ok U) : spk 1 (sp_nights U x) := by
  unfold sp_nights
  split
  · exact ⟨Nat.le_refl _, hU⟩
  · exact ⟨Nat.zero_le _, st_rem hU (pnI_fk hU.1 _).1⟩
theorem k_tell {a b c : Int32} (hU : st_ok U) : spk 2 (sp_tell U a b c) := by
  have hn0 := hU.1.1.n0
  have hn1 := hU.1.1.n1
  unfold sp_tell
  split
  · rename_i s p m e1 e2 e3
    obtain ⟨-, g1⟩ := ixn_s e1 (by omega)
    obtain ⟨-, g2⟩ := ixn_s e2 (by omega)
    obtain ⟨-, g3⟩ := ixn_s e3 (by omega)
    split
    · refine ⟨Nat.zero_le _, st_rem hU (fk_st hU.1 g1 g2 ?_)⟩
      exact nb_lt (hU.1.1.t _ _) (two6 g3)
    · exact ⟨Nat.le_refl _, hU⟩
  · exact ⟨Nat.le_of_ble_eq_true rfl, hU⟩
theorem k_cheese {a b : Int32} (hU : st_ok U) : spk 2 (sp_cheese U a b) := by
  unfold sp_cheese
  split
  · exact ⟨Nat.le_of_ble_eq_true rfl, hU⟩
  · split
    · exact ⟨Nat.le_refl _, hU⟩
    · refine ⟨Nat.zero_le _, st_rem hU (fk_sr hU.1 (by omega) (fo_ok_sr hU.1.1 _ _ _ ⟨by omega, by omega, by omega, fun _ => Nat.min_le_left _ _, by omega, by omega, by omega⟩))⟩
theorem k_meet {a b : Int32} (hU : st_ok U) : spk 1 (sp_meet U a b) := by
  have hn0 := hU.1.1.n0
  unfold sp_meet
  split
  · rename_i s p e1 e2
    obtain ⟨-, g2⟩ := ixn_s e2 (by omega)
    exact ⟨Nat.zero_le _, st_rem hU (fk_sr hU.1 (by omega) (fo_ok_sr hU.1.1 _ _ _ ⟨by omega, by omega, by omega, by omega, fun _ => nb_lt (hU.1.1.2.2.2.2.2.2.2.2.2.2.2.2.2.1 s) (two6 (by omega)), by omega, by omega⟩))⟩
  · exact ⟨Nat.le_refl _, hU⟩
theorem k_wake {a : Int32} (hU : st_ok U) : spk 1 (sp_wake U a) := by
  have hn1 := hU.1.1.n1
  unfold sp_wake
  split
  · exact ⟨Nat.le_refl _, hU⟩
  · rename_i s e1
    obtain ⟨-, g1⟩ := ixn_s e1 (by omega)
    refine ⟨Nat.zero_le _, st_rem hU ⟨fo_ok_n7 hU.1.1 (nb_lt hU.1.1.a (two6 (by omega))), hU.1.2.1, hU.1.2.2.1, ?_⟩⟩
    show U.1.1 7 ||| 2 ^ s < 2 ^ U.1.1 1
    exact Nat.or_lt_two_pow hU.1.2.2.2 (Nat.pow_lt_pow_right (by decide) g1)
theorem k_strict {x : Int32} (hU : st_ok U) : spk 1 (sp_strict U x) := by
  unfold sp_strict
  split
  · exact ⟨Nat.le_refl _, hU⟩
  · rename_i n e1
    obtain ⟨-, g1, g2⟩ := rgn_s e1 (by omega) (by omega)
    exact ⟨Nat.zero_le _, st_rem hU ⟨fo_ok_n3 hU.1.1 g1 g2, hU.1.2⟩⟩
theorem k_retake {a : Int32} (hU : st_ok U) : spk 2 (sp_retake U a) := by
  unfold sp_retake
  split
  · exact ⟨Nat.le_of_ble_eq_true rfl, hU⟩
  · rename_i p e1
    split
    · have g : ∀ {x y k : Nat}, x < k → x &&& y < k := fun h => Nat.lt_of_le_of_lt Nat.and_le_left h
      exact ⟨Nat.zero_le _, st_rem hU ⟨fo_ok_n6 hU.1.1 (g hU.1.1.o), hU.1.2.1, g hU.1.2.2.1, hU.1.2.2.2⟩⟩
    · exact ⟨Nat.le_refl _, hU⟩
theorem clT_ok (hS : fo_ok S) (s : Nat) : fo_ok (clT S s) := by
  have k : ∀ j, fo_ok (clTj S s j) := fun j => by
    induction j with
    | zero => rw [clTj_0]; exact hS
    | succ j ih => rw [← clTj_s]; exact fo_ok_told ih _ _ (by omega)
  exact k 6
theorem k_forget {a : Int32} (hU : st_ok U) : spk 1 (sp_forget U a) := by
  unfold sp_forget
  split
  · exact ⟨Nat.le_refl _, hU⟩
  · rename_i s e1
    refine ⟨Nat.zero_le _, st_rem hU ⟨clT_ok hU.1.1 s, fun s' p' hs hp h => ?_, hU.1.2.2⟩⟩
    show (if 13 = 13 ∧ s * 6 ≤ s' * 6 + p' ∧ s' * 6 + p' < s * 6 + 6 then 0 else U.1.2.1 13 (s' * 6 + p')) = 0
    split
    · rfl
    · exact hU.1.2.1 s' p' hs hp h
theorem k_seed {x : Int32} (hU : st_ok U) : spk 0 (sp_seed U x) := ⟨Nat.le_refl _, fk_sd hU.1, hU.2⟩
theorem k_end {x : Int32} (hU : st_ok U) : spk 0 (sp_end U x) := by
  unfold sp_end
  split
  · rename_i j e1
    have h4 := hU.2.2.2.1
    obtain ⟨-, g1, g2⟩ := rgn_s e1 (by omega) (by omega)
    exact ⟨Nat.le_refl _, hU.1, hU.2.1, hU.2.2.1, Nat.le_trans g2 h4, hU.2.2.2.2⟩
  · exact ⟨Nat.le_refl _, hU⟩
theorem apB_lt {f : Nat → Nat} {n : Nat} {x : Int32} (h : ∀ i, f i < 256) : ∀ i, apB f n x i < 256 := by
  intro i
  rw [apB_i]
  split
  · exact byt_lt _ _
  · exact h i
theorem k_feed {a b c d e : Int32} (hU : st_ok U) : spk 0 (sp_feed U a b c d e) := by
  unfold sp_feed
  split
  · rename_i q
    exact ⟨Nat.le_refl _, hU.1, hU.2.1, apB_lt (apB_lt (apB_lt (apB_lt (apB_lt hU.2.2.1)))), q, hU.2.2.2.2⟩
  · exact ⟨Nat.le_refl _, hU⟩
theorem k_undo (hU : st_ok U) : spk 0 (sp_undo U) := by
  unfold sp_undo
  split
  · exact ⟨Nat.le_refl _, hU⟩
  · rename_i q
    obtain ⟨h1, h2, h3, h4, h5, ⟨h6, h7⟩, h8⟩ := hU
    refine ⟨Nat.le_refl _, h7 0 (by omega), h2, h3, h4, h5, ⟨by show U.2.2.2.2.2.1.1 - 1 ≤ 12; omega, fun k hk => h7 (k + 1) ?_⟩, h8⟩
    have hk : k < U.2.2.2.2.2.1.1 - 1 := hk
    omega
theorem k_image (hU : st_ok U) : st_ok (sp_image U) := by
  obtain ⟨h1, h2, h3, h4, h5, h6, h8⟩ := hU
  refine ⟨h1, h2, h3, h4, h5, h6, fun I hI => ?_⟩
  cases hI
  exact ⟨h1, h2⟩
theorem k_back (hU : st_ok U) : spk 0 (sp_back U) := by
  unfold sp_back
  split
  · exact ⟨Nat.le_refl _, hU⟩
  · rename_i I e
    obtain ⟨g1, g2⟩ := hU.2.2.2.2.2.2 I e
    exact ⟨Nat.le_refl _, st_drp hU g1 g2⟩
theorem k_fortress (hU : st_ok U) : spk 2 (sp_fortress U) := by
  unfold sp_fortress
  split
  · refine ⟨Nat.le_of_ble_eq_true rfl, st_flt hU ?_⟩
    have h4 := hU.2.2.2.1
    have : tP U.2.2.1 U.2.2.2.1 (fpr U).1 ≤ U.2.2.2.1 := tP_le (fpr_ok hU).1
    show tP U.2.2.1 U.2.2.2.1 (fpr U).1 + 1 ≤ 401
    omega
  · rename_i S' e
    split
    · exact ⟨Nat.le_refl _, st_flt hU (Nat.zero_le _)⟩
    · rename_i q
      obtain ⟨g1, g2⟩ := fpr_2 hU S' e
      refine ⟨Nat.zero_le _, st_drp (U := flt U 0) (st_flt hU (Nat.zero_le _)) ⟨fo_ok_n2 g1.1 (by omega), g1.2⟩ hU.2.1⟩
theorem k_law {r : Nat → Nat → Nat} (hr : wbr r) (hU : st_ok U) : spk 1 (sp_law U r) := by
  unfold sp_law
  split
  · refine ⟨Nat.le_refl _, st_flt hU ?_⟩
    have h4 := hU.2.2.2.1
    have : tP U.2.2.1 U.2.2.2.1 (lpr U r).1 ≤ U.2.2.2.1 := tP_le (lpr_ok hU hr).1
    show tP U.2.2.1 U.2.2.2.1 (lpr U r).1 + 1 ≤ 401
    omega
  · rename_i W' e
    have g1 := (lpr_ok hU hr).2 W' e
    exact ⟨Nat.zero_le _, st_drp (U := flt U 0) (st_flt hU (Nat.zero_le _)) hU.1 ⟨g1.ok, Or.inr g1⟩⟩
theorem k_mark {x : Int32} (hU : st_ok U) : spk 1 (sp_mark U x) := by
  unfold sp_mark
  repeat' split
  all_goals exact ⟨Nat.le_of_ble_eq_true rfl, hU⟩
theorem k_told {a b : Int32} (hU : st_ok U) : spk 1 (sp_told U a b) := by
  unfold sp_told
  repeat' split
  all_goals exact ⟨Nat.le_of_ble_eq_true rfl, hU⟩
theorem k_like {a b : Int32} (hU : st_ok U) : spk 2 (sp_like U a b) := by
  unfold sp_like
  repeat' split
  all_goals exact ⟨Nat.le_of_ble_eq_true rfl, hU⟩
theorem k_friends {a b : Int32} (hU : st_ok U) : spk 2 (sp_friends U a b) := by
  unfold sp_friends
  repeat' split
  all_goals exact ⟨Nat.le_of_ble_eq_true rfl, hU⟩
theorem k_within {a b : Int32} (hU : st_ok U) : spk 2 (sp_within U a b) := by
  unfold sp_within
  repeat' split
  all_goals exact ⟨Nat.le_of_ble_eq_true rfl, hU⟩
theorem k_soon {a b : Int32} (hU : st_ok U) : spk 2 (sp_soon U a b) := by
  unfold sp_soon
  repeat' split
  all_goals exact ⟨Nat.le_of_ble_eq_true rfl, hU⟩
theorem k_prisoner {a b : Int32} (hU : st_ok U) : spk 2 (sp_prisoner U a b) := by
  unfold sp_prisoner
  repeat' split
  all_goals exact ⟨Nat.le_of_ble_eq_true rfl, hU⟩
theorem k_sleeper {a b : Int32} (hU : st_ok U) : spk 2 (sp_sleeper U a b) := by
  unfold sp_sleeper
  repeat' split
  all_goals exact ⟨Nat.le_of_ble_eq_true rfl, hU⟩
theorem k_outs {a b : Int32} (hU : st_ok U) : spk 2 (sp_outs U a b) := by
  unfold sp_outs
  repeat' split
  all_goals exact ⟨Nat.le_of_ble_eq_true rfl, hU⟩
theorem k_beds {a b : Int32} (hU : st_ok U) : spk 2 (sp_beds U a b) := by
  unfold sp_beds
  repeat' split
  all_goals exact ⟨Nat.le_of_ble_eq_true rfl, hU⟩
theorem k_couples {x : Int32} (hU : st_ok U) : spk 1 (sp_couples U x) := by
  unfold sp_couples
  repeat' split
  all_goals exact ⟨Nat.le_of_ble_eq_true rfl, hU⟩
theorem k_log {a b : Int32} (hU : st_ok U) : spk 1 (sp_log U a b) := by
  unfold sp_log
  repeat' split
  all_goals exact ⟨Nat.le_of_ble_eq_true rfl, hU⟩
theorem k_pull {a b : Int32} (hU : st_ok U) : spk 1 (sp_pull U a b) := by
  unfold sp_pull sp_sp
  repeat' split
  all_goals exact ⟨Nat.le_of_ble_eq_true rfl, hU⟩
theorem k_need {a b : Int32} (hU : st_ok U) : spk 1 (sp_need U a b) := by
  unfold sp_need sp_sp
  repeat' split
  all_goals exact ⟨Nat.le_of_ble_eq_true rfl, hU⟩
theorem k_rests {a b : Int32} (hU : st_ok U) : spk 1 (sp_rests U a b) := by
  unfold sp_rests sp_sp
  repeat' split
  all_goals exact ⟨Nat.le_of_ble_eq_true rfl, hU⟩
theorem k_whom {a b : Int32} (hU : st_ok U) : spk 2 (sp_whom U a b) := by
  unfold sp_whom sp_cw
  repeat' split
  all_goals exact ⟨Nat.le_of_ble_eq_true rfl, hU⟩
theorem k_cover {a b : Int32} (hU : st_ok U) : spk 2 (sp_cover U a b) := by
  unfold sp_cover sp_cw
  repeat' split
  all_goals exact ⟨Nat.le_of_ble_eq_true rfl, hU⟩
theorem k_sworn (hU : st_ok U) : spk 1 (sp_sworn U) := by
  unfold sp_sworn sp_sw
  split
  all_goals exact ⟨Nat.le_of_ble_eq_true rfl, st_usd hU⟩
theorem k_likely (hU : st_ok U) : spk 1 (sp_likely U) := by
  unfold sp_likely sp_sw
  split
  all_goals exact ⟨Nat.le_of_ble_eq_true rfl, st_usd hU⟩
theorem k_ask (hU : st_ok U) : spk 1 (sp_ask U) := by
  unfold sp_ask sp_sw
  split
  all_goals exact ⟨Nat.le_of_ble_eq_true rfl, st_usd hU⟩
theorem k_next (hU : st_ok U) : spk 1 (sp_next U) := by
  unfold sp_next sp_ru
  split
  all_goals exact ⟨Nat.le_of_ble_eq_true rfl, st_usd hU⟩
theorem k_rumour {f : Bool} (hU : st_ok U) : spk 1 (sp_rumour U f) := by
  unfold sp_rumour sp_ru
  split
  all_goals exact ⟨Nat.le_of_ble_eq_true rfl, st_usd hU⟩
theorem k_ahead {a b c : Int32} (hU : st_ok U) : spk 2 (sp_ahead U a b c) := by
  unfold sp_ahead
  repeat' split
  all_goals exact ⟨Nat.le_of_ble_eq_true rfl, hU⟩
theorem k_trial {x : Int32} {f : Bool} (hU : st_ok U) : spk 1 (sp_trial U x f) := by
  unfold sp_trial
  repeat' split
  all_goals exact ⟨Nat.le_of_ble_eq_true rfl, hU⟩
theorem k_span {x : Int32} {f : Bool} (hU : st_ok U) : spk 1 (sp_span U x f) := by
  unfold sp_span
  repeat' split
  all_goals exact ⟨Nat.le_of_ble_eq_true rfl, hU⟩
theorem k_led {x : Int32} {f : Bool} (hU : st_ok U) : spk 1 (sp_led U x f) := by
  unfold sp_led
  repeat' split
  all_goals exact ⟨Nat.le_of_ble_eq_true rfl, hU⟩
theorem k_fault (hU : st_ok U) : spk 0 (sp_fault U) := ⟨Nat.le_refl _, hU⟩
theorem k_out (hU : st_ok U) : spk 0 (sp_out U) := ⟨Nat.le_refl _, hU⟩
theorem k_awake (hU : st_ok U) : spk 0 (sp_awake U) := ⟨Nat.le_refl _, hU⟩
theorem k_gossip (hU : st_ok U) : spk 0 (sp_gossip U) := ⟨Nat.le_refl _, hU⟩
theorem k_longest (hU : st_ok U) : spk 0 (sp_longest U) := ⟨Nat.le_refl _, hU⟩
theorem k_twins (hU : st_ok U) : spk 0 (sp_twins U) := ⟨Nat.le_refl _, hU⟩
theorem k_twice (hU : st_ok U) : spk 0 (sp_twice U) := ⟨Nat.le_refl _, hU⟩
theorem k_vain (hU : st_ok U) : spk 0 (sp_vain U) := ⟨Nat.le_refl _, hU⟩
theorem k_sound (hU : st_ok U) : spk 0 (sp_sound U) := ⟨Nat.le_refl _, hU⟩
theorem k_never (hU : st_ok U) : spk 0 (sp_never U) := ⟨Nat.le_refl _, hU⟩
theorem k_count {x : Int32} (hU : st_ok U) : spk 0 (sp_count U x) := ⟨Nat.le_refl _, hU⟩
end SK
