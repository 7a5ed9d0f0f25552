/-! THE CLASS AND THE REFERENCE side by side -/
section
variable {s t u : fx_S} {Q : fx_Q} {x o m c : Nat} {A : Nat → Nat} {rt : Nat → List Nat} {B H P : Nat → Nat} {C : Nat → Nat → Option Nat} {Y : Nat → Nat → Nat} {K : Nat → Prop} {L : List Nat} {M M' : rf_M}
theorem RA.thr {y : Int32} (h : RA s x B H C Y P m rt K L M) : RA s x B H C Y P m rt K L (fx_up M ff_Mod_thrown 0 y) := ⟨h.sk, ⟨h.t.mode, h.t.pat, h.t.now, h.t.turn, h.t.fin, h.t.dfl, h.t.rec, h.t.ask, h.t.pks⟩, h.g, h.s, h.p, h.w, h.r, h.x, h.m, h.o, h.k, h.f, h.v, h.nm⟩
theorem RA.th {k : Nat} (h : RA s x B H C Y P m rt K (List.range ((rn M ff_Mod_notes 0))) M) : RA s x B H C Y P m rt K (List.range ((rn (om_th M k) ff_Mod_notes 0))) (om_th M k) := by
  have e : (rn (om_th M k) ff_Mod_notes 0) = (rn M ff_Mod_notes 0) := by
    unfold om_th
    rw [rn_pe (by decide)]
  rw [e]
  exact h.thr
/-- RA reads of the heap only what the reference leaves alone -/
theorem RA.same (h : RA s x B H C Y P m rt K L M) (hfr : fx_fr t = fx_fr s) (hln : fx_ln t = fx_ln s) (har : fx_ar t = fx_ar s) (hnx : fx_nx t = fx_nx s) (hfi : ∀ f a, f < 768 → fx_fi t f a = fx_fi s f a) (hai : ∀ a, x + 4 ≤ a → a ≤ x + 8 → fx_ai t a = fx_ai s a) : RA t x B H C Y P m rt K L M := by
  have F : ∀ f, f < 768 → fx_fi t f = fx_fi s f := fun f hf => funext (fun a => hfi f a hf)
  refine ⟨⟨?_, fun v hv => ?_, ?_⟩, ?_, ?_, ?_, fun p hp lp => ?_, fun v hv => ⟨(h.w v hv).1, fun i a hi => ?_⟩, ⟨fun r hr => ?_, h.r.nd, h.r.dj⟩, h.x, ?_, h.o, ?_, ?_, fun v hv => ?_, h.nm⟩
  · have := h.sk.a
    unfold SK1 at this ⊢
    rw [hfr, hln]; exact this
  · have := h.sk.b v hv
    unfold SK2 at this ⊢
    rw [hfr, hln, har, F ff_Node_number (by decide)]; exact this
  · have := h.sk.c
    unfold SK3 at this ⊢
    rw [hnx, F ff_Torus_nodesMade (by decide)]; exact this
  · have := h.t
    unfold RT at this ⊢
    rw [F ff_Torus_mode (by decide), F ff_Torus_patience (by decide), F ff_Torus_now (by decide), F ff_Torus_turn (by decide), F ff_Torus_flitsInNet (by decide), F ff_Torus_flitsDeflected (by decide), F ff_Torus_flitsReceived (by decide), F ff_Torus_packetsAsked (by decide), F ff_Torus_packets (by decide)]; exact this
  · have := h.g
    unfold RG RGa RGb CD at this ⊢
    rw [F ff_Grid_size (by decide), F ff_Grid_greatest (by decide), hai (x + 4) (by omega) (by omega), hai (x + 5) (by omega) (by omega), hai (x + 6) (by omega) (by omega), hai (x + 7) (by omega) (by omega)]; exact this
  · have := h.s
    unfold RS at this ⊢
    rw [hfr, har, F ff_Sender_slotsUsed (by decide), F ff_Sender_hungryCycles (by decide), F ff_Node_wentOut (by decide)]; exact this
  · have := h.p p hp lp
    unfold RP1 at this ⊢
    rw [F ff_Packet_source (by decide), F ff_Packet_slot (by decide), F ff_Packet_goal (by decide), F ff_Packet_length (by decide), F ff_Packet_tag (by decide), F ff_Packet_attempt (by decide), F ff_Packet_entered (by decide), F ff_Packet_wasAsked (by decide), F ff_Packet_flitsInNet (by decide)]; exact this
  · have := (h.w v hv).2 i a hi
    unfold RW1 at this ⊢
    rw [F ff_Packet_source (by decide), F ff_Packet_slot (by decide), F ff_Packet_goal (by decide), F ff_Packet_length (by decide), F ff_Packet_tag (by decide), F ff_Packet_attempt (by decide), F ff_Packet_entered (by decide), F ff_Packet_wasAsked (by decide), F ff_Packet_flitsInNet (by decide)]; exact this
  · obtain ⟨a1, a2, a3, a4⟩ := h.r.row r hr
    exact ⟨by rw [hfr]; exact a1, by rw [hfr]; exact a2, by rw [F ff_Row_size (by decide)]; exact a3, a4.frame (fun a _ => by rw [hfr])⟩
  · have := h.m
    unfold RM at this ⊢
    rw [F ff_Packet_noteIsDone (by decide), F ff_Packet_noteDue (by decide)]; exact this
  · have := h.k
    unfold RK at this ⊢
    rw [hfr, hln, har, hnx, F ff_Flit_number (by decide)]; exact this
  · have := h.f
    unfold RF at this ⊢
    rw [hfr, har, F ff_Flit_entry (by decide), F ff_Flit_attempt (by decide)]; exact this
  · have := h.v v hv
    unfold RV1 at this ⊢
    rw [hfr, har, F ff_Receiver_readyCount (by decide), F ff_Receiver_hasHandedOver (by decide), F ff_Place_attempt (by decide), F ff_Place_joined (by decide), F ff_Arrival_source (by decide), F ff_Arrival_length (by decide), F ff_Arrival_attempt (by decide), F ff_Arrival_tag (by decide)]; exact this
end
