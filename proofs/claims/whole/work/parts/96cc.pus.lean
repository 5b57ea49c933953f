/-! ===== the Model: the tape used up ===== -/
section MO
variable {h : ab_H} {z w : Nat → Int32} {R : Nat → Nat → Int32} {nx n : Nat} {U : ST} {bt : Nat → Nat}
/-- the tape used up -/
def zU (z : Nat → Int32) (t : Int32) : Nat → Int32 := upd (upd (upd (upd z 0 (nI 0)) 11 t) 9 (nI 0)) 10 (nI 0)
theorem md.us {t : Int32} (hd : md U z w R) : md (usd U) (zU z t) w R := by
  obtain ⟨d1, d2, d3, d4, d5, d6, d7, d8⟩ := hd
  refine ⟨d1, d2, ?_, ?_, ?_, d6, ?_, d8⟩
  · exact (md_u (by omega)).trans (md_us _ _ _)
  · exact (md_u (by omega)).trans ((md_u (by omega)).trans ((md_u (by omega)).trans ((md_u (by omega)).trans d4)))
  · exact (md_u (by omega)).trans ((md_u (by omega)).trans ((md_u (by omega)).trans ((md_u (by omega)).trans d5)))
  · exact (md_u (by omega)).trans ((md_u (by omega)).trans ((md_u (by omega)).trans ((md_u (by omega)).trans d7)))
theorem zU_0 {t : Int32} : zU z t 0 = nI 0 := (md_u (by omega)).trans ((md_u (by omega)).trans ((md_u (by omega)).trans (md_us _ _ _)))
theorem px.us (hd : md U z w R) (hU : st_ok U) : px (zU z (nI U.2.2.2.1)) R U.2.2.1 U.2.2.2.1 := ⟨(md_u (by omega)).trans ((md_u (by omega)).trans (md_us _ _ _)), hU.2.2.2.1, hd.2.1, hU.2.2.1⟩
theorem m_usesU (hM : mo_at h z w R) (hd : md U z w R) : ab_Con mX12_uses [.ref 3174] nx h (mq nx h none (zU z (nI U.2.2.2.1)) w R) := m_uses hM hd.2.2.1
end MO
