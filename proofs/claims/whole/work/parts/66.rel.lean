/-! THE CLASS AND THE REFERENCE: what the heap holds beside the numbers M -/
/-- what the constructor made -/
def SK1 (s : fx_S) (x : Nat) : Prop := (fx_fr s ff_Torus_router x = some (x + 1)) ∧ (fx_fr s ff_Torus_grid x = some (x + 3)) ∧ (fx_fr s ff_Torus_rank x = some (x + 9)) ∧ (fx_fr s ff_Torus_nodes x = some (x + 12)) ∧ (fx_fr s ff_Torus_mail x = some (x + 13)) ∧ (fx_fr s ff_Torus_sparePackets x = some (x + 14)) ∧ (fx_fr s ff_Router_out (x + 1) = some (x + 2)) ∧ (fx_fr s ff_Router_grid (x + 1) = some (x + 3)) ∧ (fx_fr s ff_Router_rank (x + 1) = some (x + 9)) ∧ (fx_fr s ff_Router_ranked (x + 1) = some (x + 10)) ∧ (fx_fr s ff_Router_middle (x + 1) = some (x + 11)) ∧ (fx_fr s ff_Grid_besides (x + 3) = some (x + 4)) ∧ (fx_fr s ff_Grid_opens (x + 3) = some (x + 5)) ∧ (fx_fr s ff_Grid_stepsTo (x + 3) = some (x + 6)) ∧ (fx_fr s ff_Grid_isCounted (x + 3) = some (x + 7)) ∧ (fx_fr s ff_Grid_reached (x + 3) = some (x + 8)) ∧ (fx_ln s (x + 2) = 4) ∧ (fx_ln s (x + 4) = 256) ∧ (fx_ln s (x + 5) = 256) ∧ (fx_ln s (x + 6) = 4096) ∧ (fx_ln s (x + 7) = 64) ∧ (fx_ln s (x + 8) = 64) ∧ (fx_ln s (x + 10) = 4) ∧ (fx_ln s (x + 11) = 4) ∧ (fx_ln s (x + 12) = 64)
theorem SK1.router {s : fx_S} {x : Nat} (h : SK1 s x) : fx_fr s ff_Torus_router x = some (x + 1) := h.1
theorem SK1.grid {s : fx_S} {x : Nat} (h : SK1 s x) : fx_fr s ff_Torus_grid x = some (x + 3) := h.2.1
theorem SK1.rank {s : fx_S} {x : Nat} (h : SK1 s x) : fx_fr s ff_Torus_rank x = some (x + 9) := h.2.2.1
theorem SK1.nodes {s : fx_S} {x : Nat} (h : SK1 s x) : fx_fr s ff_Torus_nodes x = some (x + 12) := h.2.2.2.1
theorem SK1.mail {s : fx_S} {x : Nat} (h : SK1 s x) : fx_fr s ff_Torus_mail x = some (x + 13) := h.2.2.2.2.1
theorem SK1.spare {s : fx_S} {x : Nat} (h : SK1 s x) : fx_fr s ff_Torus_sparePackets x = some (x + 14) := h.2.2.2.2.2.1
theorem SK1.out {s : fx_S} {x : Nat} (h : SK1 s x) : fx_fr s ff_Router_out (x + 1) = some (x + 2) := h.2.2.2.2.2.2.1
theorem SK1.rgrid {s : fx_S} {x : Nat} (h : SK1 s x) : fx_fr s ff_Router_grid (x + 1) = some (x + 3) := h.2.2.2.2.2.2.2.1
theorem SK1.rrank {s : fx_S} {x : Nat} (h : SK1 s x) : fx_fr s ff_Router_rank (x + 1) = some (x + 9) := h.2.2.2.2.2.2.2.2.1
theorem SK1.ranked {s : fx_S} {x : Nat} (h : SK1 s x) : fx_fr s ff_Router_ranked (x + 1) = some (x + 10) := h.2.2.2.2.2.2.2.2.2.1
theorem SK1.middle {s : fx_S} {x : Nat} (h : SK1 s x) : fx_fr s ff_Router_middle (x + 1) = some (x + 11) := h.2.2.2.2.2.2.2.2.2.2.1
theorem SK1.besides {s : fx_S} {x : Nat} (h : SK1 s x) : fx_fr s ff_Grid_besides (x + 3) = some (x + 4) := h.2.2.2.2.2.2.2.2.2.2.2.1
theorem SK1.opens {s : fx_S} {x : Nat} (h : SK1 s x) : fx_fr s ff_Grid_opens (x + 3) = some (x + 5) := h.2.2.2.2.2.2.2.2.2.2.2.2.1
theorem SK1.stepsTo {s : fx_S} {x : Nat} (h : SK1 s x) : fx_fr s ff_Grid_stepsTo (x + 3) = some (x + 6) := h.2.2.2.2.2.2.2.2.2.2.2.2.2.1
theorem SK1.counted {s : fx_S} {x : Nat} (h : SK1 s x) : fx_fr s ff_Grid_isCounted (x + 3) = some (x + 7) := h.2.2.2.2.2.2.2.2.2.2.2.2.2.2.1
theorem SK1.reached {s : fx_S} {x : Nat} (h : SK1 s x) : fx_fr s ff_Grid_reached (x + 3) = some (x + 8) := h.2.2.2.2.2.2.2.2.2.2.2.2.2.2.2.1
theorem SK1.lout {s : fx_S} {x : Nat} (h : SK1 s x) : fx_ln s (x + 2) = 4 := h.2.2.2.2.2.2.2.2.2.2.2.2.2.2.2.2.1
theorem SK1.lbes {s : fx_S} {x : Nat} (h : SK1 s x) : fx_ln s (x + 4) = 256 := h.2.2.2.2.2.2.2.2.2.2.2.2.2.2.2.2.2.1
theorem SK1.lopen {s : fx_S} {x : Nat} (h : SK1 s x) : fx_ln s (x + 5) = 256 := h.2.2.2.2.2.2.2.2.2.2.2.2.2.2.2.2.2.2.1
theorem SK1.lsteps {s : fx_S} {x : Nat} (h : SK1 s x) : fx_ln s (x + 6) = 4096 := h.2.2.2.2.2.2.2.2.2.2.2.2.2.2.2.2.2.2.2.1
theorem SK1.lcnt {s : fx_S} {x : Nat} (h : SK1 s x) : fx_ln s (x + 7) = 64 := h.2.2.2.2.2.2.2.2.2.2.2.2.2.2.2.2.2.2.2.2.1
theorem SK1.lrea {s : fx_S} {x : Nat} (h : SK1 s x) : fx_ln s (x + 8) = 64 := h.2.2.2.2.2.2.2.2.2.2.2.2.2.2.2.2.2.2.2.2.2.1
theorem SK1.lrk {s : fx_S} {x : Nat} (h : SK1 s x) : fx_ln s (x + 10) = 4 := h.2.2.2.2.2.2.2.2.2.2.2.2.2.2.2.2.2.2.2.2.2.2.1
theorem SK1.lmid {s : fx_S} {x : Nat} (h : SK1 s x) : fx_ln s (x + 11) = 4 := h.2.2.2.2.2.2.2.2.2.2.2.2.2.2.2.2.2.2.2.2.2.2.2.1
theorem SK1.lnod {s : fx_S} {x : Nat} (h : SK1 s x) : fx_ln s (x + 12) = 64 := h.2.2.2.2.2.2.2.2.2.2.2.2.2.2.2.2.2.2.2.2.2.2.2.2
/-- what a node is made of -/
def SK2 (s : fx_S) (x v b : Nat) : Prop := (fx_ar s (x + 12) v = some b) ∧ (fx_fi s ff_Node_number b = nI v) ∧ (fx_fr s ff_Node_sender b = some (b + 1)) ∧ (fx_fr s ff_Node_receiver b = some (b + 5)) ∧ (fx_fr s ff_Sender_waiting (b + 1) = some (b + 2)) ∧ (fx_fr s ff_Sender_again (b + 1) = some (b + 3)) ∧ (fx_fr s ff_Sender_slots (b + 1) = some (b + 4)) ∧ (fx_fr s ff_Receiver_asked (b + 5) = some (b + 6)) ∧ (fx_fr s ff_Receiver_places (b + 5) = some (b + 8)) ∧ (fx_fr s ff_Receiver_ready (b + 5) = some (b + 9)) ∧ (fx_ln s (b + 4) = 8) ∧ (fx_ln s (b + 8) = 4) ∧ (fx_ln s (b + 9) = 4) ∧ (fx_ln s (b + 18) = 4) ∧ (fx_ln s (b + 19) = 4) ∧ (∀ i, i < 4 → fx_ar s (b + 8) i = some (b + 10 + i))
theorem SK2.at {s : fx_S} {x v b : Nat} (h : SK2 s x v b) : fx_ar s (x + 12) v = some b := h.1
theorem SK2.num {s : fx_S} {x v b : Nat} (h : SK2 s x v b) : fx_fi s ff_Node_number b = nI v := h.2.1
theorem SK2.snd {s : fx_S} {x v b : Nat} (h : SK2 s x v b) : fx_fr s ff_Node_sender b = some (b + 1) := h.2.2.1
theorem SK2.rcv {s : fx_S} {x v b : Nat} (h : SK2 s x v b) : fx_fr s ff_Node_receiver b = some (b + 5) := h.2.2.2.1
theorem SK2.wait {s : fx_S} {x v b : Nat} (h : SK2 s x v b) : fx_fr s ff_Sender_waiting (b + 1) = some (b + 2) := h.2.2.2.2.1
theorem SK2.again {s : fx_S} {x v b : Nat} (h : SK2 s x v b) : fx_fr s ff_Sender_again (b + 1) = some (b + 3) := h.2.2.2.2.2.1
theorem SK2.slots {s : fx_S} {x v b : Nat} (h : SK2 s x v b) : fx_fr s ff_Sender_slots (b + 1) = some (b + 4) := h.2.2.2.2.2.2.1
theorem SK2.asked {s : fx_S} {x v b : Nat} (h : SK2 s x v b) : fx_fr s ff_Receiver_asked (b + 5) = some (b + 6) := h.2.2.2.2.2.2.2.1
theorem SK2.places {s : fx_S} {x v b : Nat} (h : SK2 s x v b) : fx_fr s ff_Receiver_places (b + 5) = some (b + 8) := h.2.2.2.2.2.2.2.2.1
theorem SK2.ready {s : fx_S} {x v b : Nat} (h : SK2 s x v b) : fx_fr s ff_Receiver_ready (b + 5) = some (b + 9) := h.2.2.2.2.2.2.2.2.2.1
theorem SK2.lslots {s : fx_S} {x v b : Nat} (h : SK2 s x v b) : fx_ln s (b + 4) = 8 := h.2.2.2.2.2.2.2.2.2.2.1
theorem SK2.lpl {s : fx_S} {x v b : Nat} (h : SK2 s x v b) : fx_ln s (b + 8) = 4 := h.2.2.2.2.2.2.2.2.2.2.2.1
theorem SK2.lrd {s : fx_S} {x v b : Nat} (h : SK2 s x v b) : fx_ln s (b + 9) = 4 := h.2.2.2.2.2.2.2.2.2.2.2.2.1
theorem SK2.lh {s : fx_S} {x v b : Nat} (h : SK2 s x v b) : fx_ln s (b + 18) = 4 := h.2.2.2.2.2.2.2.2.2.2.2.2.2.1
theorem SK2.lc {s : fx_S} {x v b : Nat} (h : SK2 s x v b) : fx_ln s (b + 19) = 4 := h.2.2.2.2.2.2.2.2.2.2.2.2.2.2.1
theorem SK2.pl {s : fx_S} {x v b : Nat} (h : SK2 s x v b) : ∀ i, i < 4 → fx_ar s (b + 8) i = some (b + 10 + i) := h.2.2.2.2.2.2.2.2.2.2.2.2.2.2.2
/-- where they lie -/
def SK3 (s : fx_S) (x : Nat) (B : Nat → Nat) (m : Nat) : Prop := (m ≤ 64) ∧ (fx_fi s ff_Torus_nodesMade x = nI m) ∧ (∀ v, v < m → x + 15 ≤ B v ∧ B v + 20 ≤ fx_nx s) ∧ (∀ v w, v < w → w < m → B v + 20 ≤ B w) ∧ (x + 15 ≤ fx_nx s)
theorem SK3.m64 {s : fx_S} {x : Nat} {B : Nat → Nat} {m : Nat} (h : SK3 s x B m) : m ≤ 64 := h.1
theorem SK3.made {s : fx_S} {x : Nat} {B : Nat → Nat} {m : Nat} (h : SK3 s x B m) : fx_fi s ff_Torus_nodesMade x = nI m := h.2.1
theorem SK3.in_ {s : fx_S} {x : Nat} {B : Nat → Nat} {m : Nat} (h : SK3 s x B m) : ∀ v, v < m → x + 15 ≤ B v ∧ B v + 20 ≤ fx_nx s := h.2.2.1
theorem SK3.ord {s : fx_S} {x : Nat} {B : Nat → Nat} {m : Nat} (h : SK3 s x B m) : ∀ v w, v < w → w < m → B v + 20 ≤ B w := h.2.2.2.1
theorem SK3.x15 {s : fx_S} {x : Nat} {B : Nat → Nat} {m : Nat} (h : SK3 s x B m) : x + 15 ≤ fx_nx s := h.2.2.2.2
/-- the skeleton -/
def SK (s : fx_S) (x : Nat) (B : Nat → Nat) (m : Nat) : Prop := (SK1 s x) ∧ (∀ v, v < m → SK2 s x v (B v)) ∧ (SK3 s x B m)
theorem SK.a {s : fx_S} {x : Nat} {B : Nat → Nat} {m : Nat} (h : SK s x B m) : SK1 s x := h.1
theorem SK.b {s : fx_S} {x : Nat} {B : Nat → Nat} {m : Nat} (h : SK s x B m) : ∀ v, v < m → SK2 s x v (B v) := h.2.1
theorem SK.c {s : fx_S} {x : Nat} {B : Nat → Nat} {m : Nat} (h : SK s x B m) : SK3 s x B m := h.2.2
/-- how many packets wait or are in slots -/
def suse (M : rf_M) (v : Nat) : Nat := sp_cnt (fun k => decide (0 < rn M ff_Mod_lengths (8 * v + k))) 8
def spks (M : rf_M) (N : Nat) : Nat := sp_sum (fun v => rn M ff_Mod_waits v + suse M v) N
/-- the torus's own numbers -/
def RT (s : fx_S) (x : Nat) (M : rf_M) : Prop := (fx_fi s ff_Torus_mode x = M ff_Mod_mode 0) ∧ (fx_fi s ff_Torus_patience x = M ff_Mod_patience 0) ∧ (fx_fi s ff_Torus_now x = M ff_Mod_cycle 0) ∧ (fx_fi s ff_Torus_turn x = M ff_Mod_turn 0) ∧ (fx_fi s ff_Torus_flitsInNet x = M ff_Mod_flits 0) ∧ (fx_fi s ff_Torus_flitsDeflected x = M ff_Mod_deflected 0) ∧ (fx_fi s ff_Torus_flitsReceived x = M ff_Mod_received 0) ∧ (fx_fi s ff_Torus_packetsAsked x = M ff_Mod_lost 0) ∧ (fx_fi s ff_Torus_packets x = nI (spks M ((rn M ff_Mod_all 0))))
theorem RT.mode {s : fx_S} {x : Nat} {M : rf_M} (h : RT s x M) : fx_fi s ff_Torus_mode x = M ff_Mod_mode 0 := h.1
theorem RT.pat {s : fx_S} {x : Nat} {M : rf_M} (h : RT s x M) : fx_fi s ff_Torus_patience x = M ff_Mod_patience 0 := h.2.1
theorem RT.now {s : fx_S} {x : Nat} {M : rf_M} (h : RT s x M) : fx_fi s ff_Torus_now x = M ff_Mod_cycle 0 := h.2.2.1
theorem RT.turn {s : fx_S} {x : Nat} {M : rf_M} (h : RT s x M) : fx_fi s ff_Torus_turn x = M ff_Mod_turn 0 := h.2.2.2.1
theorem RT.fin {s : fx_S} {x : Nat} {M : rf_M} (h : RT s x M) : fx_fi s ff_Torus_flitsInNet x = M ff_Mod_flits 0 := h.2.2.2.2.1
theorem RT.dfl {s : fx_S} {x : Nat} {M : rf_M} (h : RT s x M) : fx_fi s ff_Torus_flitsDeflected x = M ff_Mod_deflected 0 := h.2.2.2.2.2.1
theorem RT.rec {s : fx_S} {x : Nat} {M : rf_M} (h : RT s x M) : fx_fi s ff_Torus_flitsReceived x = M ff_Mod_received 0 := h.2.2.2.2.2.2.1
theorem RT.ask {s : fx_S} {x : Nat} {M : rf_M} (h : RT s x M) : fx_fi s ff_Torus_packetsAsked x = M ff_Mod_lost 0 := h.2.2.2.2.2.2.2.1
theorem RT.pks {s : fx_S} {x : Nat} {M : rf_M} (h : RT s x M) : fx_fi s ff_Torus_packets x = nI (spks M ((rn M ff_Mod_all 0))) := h.2.2.2.2.2.2.2.2
/-- d is the least number of steps from g to u -/
def LST (cl : Nat → Bool) (n g u d : Nat) : Prop := WK cl n g d u ∧ ∀ k, WK cl n g k u → d ≤ k
def RGa (s : fx_S) (x : Nat) (cl : Nat → Bool) (n N : Nat) : Prop := fx_fi s ff_Grid_size (x + 3) = nI N ∧ (∀ v w, v < N → w < 4 → fx_ai s (x + 4) (4 * v + w) = nI (nb n v w)) ∧ ∀ v w, v < N → w < 4 → fx_ai s (x + 5) (4 * v + w) = fx_bit (!cl (4 * v + w))
def CD (s : fx_S) (x : Nat) (cl : Nat → Bool) (n g u : Nat) : Prop := (∃ d, d < 64 ∧ fx_ai s (x + 6) (64 * g + u) = nI d ∧ LST cl n g u d) ∨ (fx_ai s (x + 6) (64 * g + u) = fx_neg ∧ ∀ k, ¬ WK cl n g k u)
def RGb (s : fx_S) (x : Nat) (cl : Nat → Bool) (n N : Nat) : Prop := (∀ g, g < N → ∃ b, fx_ai s (x + 7) g = fx_bit b ∧ (b = true → ∀ u, u < N → CD s x cl n g u)) ∧ (fx_fi s ff_Grid_greatest (x + 3) = fx_neg ∨ ∃ d, d < 64 ∧ fx_fi s ff_Grid_greatest (x + 3) = nI d ∧ (∀ g u, g < N → u < N → ∃ e, e ≤ d ∧ LST cl n g u e) ∧ ∃ g u, g < N ∧ u < N ∧ LST cl n g u d)
/-- the grid -/
def RG (s : fx_S) (x : Nat) (M : rf_M) : Prop := (RGa s x (rz M ff_Mod_closed) (rn M ff_Mod_n 0) ((rn M ff_Mod_all 0))) ∧ (RGb s x (rz M ff_Mod_closed) (rn M ff_Mod_n 0) ((rn M ff_Mod_all 0)))
theorem RG.a {s : fx_S} {x : Nat} {M : rf_M} (h : RG s x M) : RGa s x (rz M ff_Mod_closed) (rn M ff_Mod_n 0) ((rn M ff_Mod_all 0)) := h.1
theorem RG.b {s : fx_S} {x : Nat} {M : rf_M} (h : RG s x M) : RGb s x (rz M ff_Mod_closed) (rn M ff_Mod_n 0) ((rn M ff_Mod_all 0)) := h.2
/-- the senders -/
def RS (s : fx_S) (B : Nat → Nat) (P : Nat → Nat) (m : Nat) (M : rf_M) : Prop := (∀ v, v < m → fx_fi s ff_Sender_slotsUsed (B v + 1) = nI (suse M v)) ∧ (∀ v, v < m → fx_fi s ff_Sender_hungryCycles (B v + 1) = M ff_Mod_hungry v) ∧ (∀ v, v < m → fx_fr s ff_Sender_underWay (B v + 1) = (sp_first (suw M) (8 * v) 8).map P) ∧ (∀ v k, v < m → k < 8 → fx_ar s (B v + 4) k = if 0 < rn M ff_Mod_lengths (8 * v + k) then some (P (8 * v + k)) else none) ∧ (∀ v, v < m → fx_fi s ff_Node_wentOut (B v) = M ff_Mod_went v)
theorem RS.used {s : fx_S} {B : Nat → Nat} {P : Nat → Nat} {m : Nat} {M : rf_M} (h : RS s B P m M) : ∀ v, v < m → fx_fi s ff_Sender_slotsUsed (B v + 1) = nI (suse M v) := h.1
theorem RS.hun {s : fx_S} {B : Nat → Nat} {P : Nat → Nat} {m : Nat} {M : rf_M} (h : RS s B P m M) : ∀ v, v < m → fx_fi s ff_Sender_hungryCycles (B v + 1) = M ff_Mod_hungry v := h.2.1
theorem RS.uw {s : fx_S} {B : Nat → Nat} {P : Nat → Nat} {m : Nat} {M : rf_M} (h : RS s B P m M) : ∀ v, v < m → fx_fr s ff_Sender_underWay (B v + 1) = (sp_first (suw M) (8 * v) 8).map P := h.2.2.1
theorem RS.sl {s : fx_S} {B : Nat → Nat} {P : Nat → Nat} {m : Nat} {M : rf_M} (h : RS s B P m M) : ∀ v k, v < m → k < 8 → fx_ar s (B v + 4) k = if 0 < rn M ff_Mod_lengths (8 * v + k) then some (P (8 * v + k)) else none := h.2.2.2.1
theorem RS.went {s : fx_S} {B : Nat → Nat} {P : Nat → Nat} {m : Nat} {M : rf_M} (h : RS s B P m M) : ∀ v, v < m → fx_fi s ff_Node_wentOut (B v) = M ff_Mod_went v := h.2.2.2.2
/-- a packet in a slot -/
def RP1 (s : fx_S) (a p : Nat) (M : rf_M) : Prop := (fx_fi s ff_Packet_source a = nI (p / 8)) ∧ (fx_fi s ff_Packet_slot a = nI (p % 8)) ∧ (fx_fi s ff_Packet_goal a = M ff_Mod_goals p) ∧ (fx_fi s ff_Packet_length a = M ff_Mod_lengths p) ∧ (fx_fi s ff_Packet_tag a = M ff_Mod_tags p) ∧ (fx_fi s ff_Packet_attempt a = M ff_Mod_slotTry p) ∧ (fx_fi s ff_Packet_entered a = M ff_Mod_entered p) ∧ (fx_fi s ff_Packet_wasAsked a = M ff_Mod_asked p) ∧ (fx_fi s ff_Packet_flitsInNet a = nI (sp_cnt (fun f => spk M f == p) ((rn M ff_Mod_flits 0))))
theorem RP1.src {s : fx_S} {a p : Nat} {M : rf_M} (h : RP1 s a p M) : fx_fi s ff_Packet_source a = nI (p / 8) := h.1
theorem RP1.slot {s : fx_S} {a p : Nat} {M : rf_M} (h : RP1 s a p M) : fx_fi s ff_Packet_slot a = nI (p % 8) := h.2.1
theorem RP1.goal {s : fx_S} {a p : Nat} {M : rf_M} (h : RP1 s a p M) : fx_fi s ff_Packet_goal a = M ff_Mod_goals p := h.2.2.1
theorem RP1.len {s : fx_S} {a p : Nat} {M : rf_M} (h : RP1 s a p M) : fx_fi s ff_Packet_length a = M ff_Mod_lengths p := h.2.2.2.1
theorem RP1.tag {s : fx_S} {a p : Nat} {M : rf_M} (h : RP1 s a p M) : fx_fi s ff_Packet_tag a = M ff_Mod_tags p := h.2.2.2.2.1
theorem RP1.att {s : fx_S} {a p : Nat} {M : rf_M} (h : RP1 s a p M) : fx_fi s ff_Packet_attempt a = M ff_Mod_slotTry p := h.2.2.2.2.2.1
theorem RP1.ent {s : fx_S} {a p : Nat} {M : rf_M} (h : RP1 s a p M) : fx_fi s ff_Packet_entered a = M ff_Mod_entered p := h.2.2.2.2.2.2.1
theorem RP1.ask {s : fx_S} {a p : Nat} {M : rf_M} (h : RP1 s a p M) : fx_fi s ff_Packet_wasAsked a = M ff_Mod_asked p := h.2.2.2.2.2.2.2.1
theorem RP1.fin {s : fx_S} {a p : Nat} {M : rf_M} (h : RP1 s a p M) : fx_fi s ff_Packet_flitsInNet a = nI (sp_cnt (fun f => spk M f == p) ((rn M ff_Mod_flits 0))) := h.2.2.2.2.2.2.2.2
def RP (s : fx_S) (P : Nat → Nat) (M : rf_M) : Prop := ∀ p, p < 512 → 0 < rn M ff_Mod_lengths p → RP1 s (P p) p M
/-- a packet that waits -/
def RW1 (s : fx_S) (a v i : Nat) (M : rf_M) : Prop := (fx_fi s ff_Packet_source a = nI v) ∧ (fx_fi s ff_Packet_slot a = fx_neg) ∧ (fx_fi s ff_Packet_goal a = M ff_Mod_waitGoal (4 * v + i)) ∧ (fx_fi s ff_Packet_length a = M ff_Mod_waitLength (4 * v + i)) ∧ (fx_fi s ff_Packet_tag a = M ff_Mod_waitTag (4 * v + i)) ∧ (fx_fi s ff_Packet_attempt a = nI 1) ∧ (fx_fi s ff_Packet_entered a = nI 0) ∧ (fx_fi s ff_Packet_wasAsked a = fx_bit false) ∧ (fx_fi s ff_Packet_flitsInNet a = nI 0)
theorem RW1.src {s : fx_S} {a v i : Nat} {M : rf_M} (h : RW1 s a v i M) : fx_fi s ff_Packet_source a = nI v := h.1
theorem RW1.slot {s : fx_S} {a v i : Nat} {M : rf_M} (h : RW1 s a v i M) : fx_fi s ff_Packet_slot a = fx_neg := h.2.1
theorem RW1.goal {s : fx_S} {a v i : Nat} {M : rf_M} (h : RW1 s a v i M) : fx_fi s ff_Packet_goal a = M ff_Mod_waitGoal (4 * v + i) := h.2.2.1
theorem RW1.len {s : fx_S} {a v i : Nat} {M : rf_M} (h : RW1 s a v i M) : fx_fi s ff_Packet_length a = M ff_Mod_waitLength (4 * v + i) := h.2.2.2.1
theorem RW1.tag {s : fx_S} {a v i : Nat} {M : rf_M} (h : RW1 s a v i M) : fx_fi s ff_Packet_tag a = M ff_Mod_waitTag (4 * v + i) := h.2.2.2.2.1
theorem RW1.att {s : fx_S} {a v i : Nat} {M : rf_M} (h : RW1 s a v i M) : fx_fi s ff_Packet_attempt a = nI 1 := h.2.2.2.2.2.1
theorem RW1.ent {s : fx_S} {a v i : Nat} {M : rf_M} (h : RW1 s a v i M) : fx_fi s ff_Packet_entered a = nI 0 := h.2.2.2.2.2.2.1
theorem RW1.ask {s : fx_S} {a v i : Nat} {M : rf_M} (h : RW1 s a v i M) : fx_fi s ff_Packet_wasAsked a = fx_bit false := h.2.2.2.2.2.2.2.1
theorem RW1.fin {s : fx_S} {a v i : Nat} {M : rf_M} (h : RW1 s a v i M) : fx_fi s ff_Packet_flitsInNet a = nI 0 := h.2.2.2.2.2.2.2.2
def RW (s : fx_S) (B : Nat → Nat) (rt : Nat → List Nat) (m : Nat) (M : rf_M) : Prop := ∀ v, v < m → (rt (B v + 2)).length = rn M ff_Mod_waits v ∧ ∀ i a, (rt (B v + 2))[i]? = some a → RW1 s a v i M
def ISR (x : Nat) (B : Nat → Nat) (m r : Nat) : Prop := r = x + 13 ∨ r = x + 14 ∨ ∃ v, v < m ∧ (r = B v + 2 ∨ r = B v + 3 ∨ r = B v + 6)
/-- the rows of packets -/
def RR (s : fx_S) (x : Nat) (B : Nat → Nat) (m : Nat) (rt : Nat → List Nat) : Prop := (∀ r, ISR x B m r → RL s r (rt r)) ∧ (∀ r, ISR x B m r → (rt r).Nodup) ∧ (∀ r q a, ISR x B m r → ISR x B m q → a ∈ rt r → a ∈ rt q → r = q)
theorem RR.row {s : fx_S} {x : Nat} {B : Nat → Nat} {m : Nat} {rt : Nat → List Nat} (h : RR s x B m rt) : ∀ r, ISR x B m r → RL s r (rt r) := h.1
theorem RR.nd {s : fx_S} {x : Nat} {B : Nat → Nat} {m : Nat} {rt : Nat → List Nat} (h : RR s x B m rt) : ∀ r, ISR x B m r → (rt r).Nodup := h.2.1
theorem RR.dj {s : fx_S} {x : Nat} {B : Nat → Nat} {m : Nat} {rt : Nat → List Nat} (h : RR s x B m rt) : ∀ r q a, ISR x B m r → ISR x B m q → a ∈ rt r → a ∈ rt q → r = q := h.2.2
/-- what the rows hold -/
def RX (x : Nat) (B : Nat → Nat) (P : Nat → Nat) (m : Nat) (rt : Nat → List Nat) (M : rf_M) : Prop := (∀ v, v < m → v < (rn M ff_Mod_all 0) → rt (B v + 3) = (List.range (rn M ff_Mod_agains v)).map (fun i => P (rn M ff_Mod_again (8 * v + i)))) ∧ (∀ v, v < m → v < (rn M ff_Mod_all 0) → rt (B v + 6) = (List.range (rn M ff_Mod_rowSize v)).map (fun i => P (rn M ff_Mod_row (512 * v + i)))) ∧ (∀ v, v < m → (rn M ff_Mod_all 0) ≤ v → rt (B v + 3) = [] ∧ rt (B v + 6) = [])
theorem RX.ag {x : Nat} {B : Nat → Nat} {P : Nat → Nat} {m : Nat} {rt : Nat → List Nat} {M : rf_M} (h : RX x B P m rt M) : ∀ v, v < m → v < (rn M ff_Mod_all 0) → rt (B v + 3) = (List.range (rn M ff_Mod_agains v)).map (fun i => P (rn M ff_Mod_again (8 * v + i))) := h.1
theorem RX.ak {x : Nat} {B : Nat → Nat} {P : Nat → Nat} {m : Nat} {rt : Nat → List Nat} {M : rf_M} (h : RX x B P m rt M) : ∀ v, v < m → v < (rn M ff_Mod_all 0) → rt (B v + 6) = (List.range (rn M ff_Mod_rowSize v)).map (fun i => P (rn M ff_Mod_row (512 * v + i))) := h.2.1
theorem RX.z {x : Nat} {B : Nat → Nat} {P : Nat → Nat} {m : Nat} {rt : Nat → List Nat} {M : rf_M} (h : RX x B P m rt M) : ∀ v, v < m → (rn M ff_Mod_all 0) ≤ v → rt (B v + 3) = [] ∧ rt (B v + 6) = [] := h.2.2
/-- the notes -/
def RM (s : fx_S) (x : Nat) (P : Nat → Nat) (rt : Nat → List Nat) (L : List Nat) (M : rf_M) : Prop := (rt (x + 13) = L.map (fun k => P (rn M ff_Mod_noteSlot k))) ∧ (∀ k, k ∈ L → fx_fi s ff_Packet_noteIsDone (P (rn M ff_Mod_noteSlot k)) = M ff_Mod_noteDone k) ∧ (∀ k, k ∈ L → fx_fi s ff_Packet_noteDue (P (rn M ff_Mod_noteSlot k)) = M ff_Mod_noteDue k)
theorem RM.row {s : fx_S} {x : Nat} {P : Nat → Nat} {rt : Nat → List Nat} {L : List Nat} {M : rf_M} (h : RM s x P rt L M) : rt (x + 13) = L.map (fun k => P (rn M ff_Mod_noteSlot k)) := h.1
theorem RM.dn {s : fx_S} {x : Nat} {P : Nat → Nat} {rt : Nat → List Nat} {L : List Nat} {M : rf_M} (h : RM s x P rt L M) : ∀ k, k ∈ L → fx_fi s ff_Packet_noteIsDone (P (rn M ff_Mod_noteSlot k)) = M ff_Mod_noteDone k := h.2.1
theorem RM.du {s : fx_S} {x : Nat} {P : Nat → Nat} {rt : Nat → List Nat} {L : List Nat} {M : rf_M} (h : RM s x P rt L M) : ∀ k, k ∈ L → fx_fi s ff_Packet_noteDue (P (rn M ff_Mod_noteSlot k)) = M ff_Mod_noteDue k := h.2.2
/-- whose they are -/
def RO (x : Nat) (B : Nat → Nat) (P : Nat → Nat) (m : Nat) (rt : Nat → List Nat) (K : Nat → Prop) (M : rf_M) : Prop := (∀ p, p < 512 → 0 < rn M ff_Mod_lengths p → P p ∉ rt (x + 14)) ∧ (∀ p, p < 512 → 0 < rn M ff_Mod_lengths p → K (P p)) ∧ (∀ v a, v < m → a ∈ rt (B v + 2) → K a) ∧ (∀ a, a ∈ rt (x + 14) → K a)
theorem RO.sp {x : Nat} {B : Nat → Nat} {P : Nat → Nat} {m : Nat} {rt : Nat → List Nat} {K : Nat → Prop} {M : rf_M} (h : RO x B P m rt K M) : ∀ p, p < 512 → 0 < rn M ff_Mod_lengths p → P p ∉ rt (x + 14) := h.1
theorem RO.kp {x : Nat} {B : Nat → Nat} {P : Nat → Nat} {m : Nat} {rt : Nat → List Nat} {K : Nat → Prop} {M : rf_M} (h : RO x B P m rt K M) : ∀ p, p < 512 → 0 < rn M ff_Mod_lengths p → K (P p) := h.2.1
theorem RO.kw {x : Nat} {B : Nat → Nat} {P : Nat → Nat} {m : Nat} {rt : Nat → List Nat} {K : Nat → Prop} {M : rf_M} (h : RO x B P m rt K M) : ∀ v a, v < m → a ∈ rt (B v + 2) → K a := h.2.2.1
theorem RO.ks {x : Nat} {B : Nat → Nat} {P : Nat → Nat} {m : Nat} {rt : Nat → List Nat} {K : Nat → Prop} {M : rf_M} (h : RO x B P m rt K M) : ∀ a, a ∈ rt (x + 14) → K a := h.2.2.2
/-- the packets themselves -/
def RK (s : fx_S) (x : Nat) (B : Nat → Nat) (P : Nat → Nat) (m : Nat) (rt : Nat → List Nat) (K : Nat → Prop) (M : rf_M) : Prop := (∀ a, K a → x + 15 ≤ a ∧ a + 1 < fx_nx s ∧ ∀ v, v < m → a + 1 < B v ∨ B v + 20 ≤ a) ∧ (∀ a, K a → fx_fr s ff_Packet_flits a = some (a + 1)) ∧ (∀ a, K a → fx_ln s (a + 1) = 8) ∧ (∀ a b F, K a → b < 8 → fx_ar s (a + 1) b = some F → fx_fr s ff_Flit_packet F = some a ∧ fx_fi s ff_Flit_number F = nI b ∧ F < fx_nx s) ∧ (∀ p b, p < 512 → b < rn M ff_Mod_lengths p → fx_ar s (P p + 1) b ≠ none) ∧ (∀ v i a b, v < m → (rt (B v + 2))[i]? = some a → b < rn M ff_Mod_waitLength (4 * v + i) → fx_ar s (a + 1) b ≠ none) ∧ (∀ a c, K a → K c → a ≠ c + 1)
theorem RK.in_ {s : fx_S} {x : Nat} {B : Nat → Nat} {P : Nat → Nat} {m : Nat} {rt : Nat → List Nat} {K : Nat → Prop} {M : rf_M} (h : RK s x B P m rt K M) : ∀ a, K a → x + 15 ≤ a ∧ a + 1 < fx_nx s ∧ ∀ v, v < m → a + 1 < B v ∨ B v + 20 ≤ a := h.1
theorem RK.fl {s : fx_S} {x : Nat} {B : Nat → Nat} {P : Nat → Nat} {m : Nat} {rt : Nat → List Nat} {K : Nat → Prop} {M : rf_M} (h : RK s x B P m rt K M) : ∀ a, K a → fx_fr s ff_Packet_flits a = some (a + 1) := h.2.1
theorem RK.ln {s : fx_S} {x : Nat} {B : Nat → Nat} {P : Nat → Nat} {m : Nat} {rt : Nat → List Nat} {K : Nat → Prop} {M : rf_M} (h : RK s x B P m rt K M) : ∀ a, K a → fx_ln s (a + 1) = 8 := h.2.2.1
theorem RK.ft {s : fx_S} {x : Nat} {B : Nat → Nat} {P : Nat → Nat} {m : Nat} {rt : Nat → List Nat} {K : Nat → Prop} {M : rf_M} (h : RK s x B P m rt K M) : ∀ a b F, K a → b < 8 → fx_ar s (a + 1) b = some F → fx_fr s ff_Flit_packet F = some a ∧ fx_fi s ff_Flit_number F = nI b ∧ F < fx_nx s := h.2.2.2.1
theorem RK.fp {s : fx_S} {x : Nat} {B : Nat → Nat} {P : Nat → Nat} {m : Nat} {rt : Nat → List Nat} {K : Nat → Prop} {M : rf_M} (h : RK s x B P m rt K M) : ∀ p b, p < 512 → b < rn M ff_Mod_lengths p → fx_ar s (P p + 1) b ≠ none := h.2.2.2.2.1
theorem RK.fw {s : fx_S} {x : Nat} {B : Nat → Nat} {P : Nat → Nat} {m : Nat} {rt : Nat → List Nat} {K : Nat → Prop} {M : rf_M} (h : RK s x B P m rt K M) : ∀ v i a b, v < m → (rt (B v + 2))[i]? = some a → b < rn M ff_Mod_waitLength (4 * v + i) → fx_ar s (a + 1) b ≠ none := h.2.2.2.2.2.1
theorem RK.sep {s : fx_S} {x : Nat} {B : Nat → Nat} {P : Nat → Nat} {m : Nat} {rt : Nat → List Nat} {K : Nat → Prop} {M : rf_M} (h : RK s x B P m rt K M) : ∀ a c, K a → K c → a ≠ c + 1 := h.2.2.2.2.2.2
/-- the flits -/
def RF (s : fx_S) (B H : Nat → Nat) (C : Nat → Nat → Option Nat) (P : Nat → Nat) (m : Nat) (M : rf_M) : Prop := (∀ v, v < m → H v = 18 ∨ H v = 19) ∧ (∀ v, v < m → fx_fr s ff_Node_here (B v) = some (B v + H v)) ∧ (∀ v, v < m → fx_fr s ff_Node_coming (B v) = some (B v + (37 - H v))) ∧ (∀ v l, v < m → l < 4 → fx_ar s (B v + H v) l = (sol M v l).bind (fun f => fx_ar s (P (spk M f) + 1) (rn M ff_Mod_number f))) ∧ (∀ f F, f < (rn M ff_Mod_flits 0) → fx_ar s (P (spk M f) + 1) (rn M ff_Mod_number f) = some F → fx_fi s ff_Flit_entry F = M ff_Mod_entry f) ∧ (∀ f F, f < (rn M ff_Mod_flits 0) → fx_ar s (P (spk M f) + 1) (rn M ff_Mod_number f) = some F → fx_fi s ff_Flit_attempt F = M ff_Mod_tries f) ∧ (∀ u w, u < m → w < 4 → fx_ar s (B u + (37 - H u)) w = C u w)
theorem RF.h1 {s : fx_S} {B H : Nat → Nat} {C : Nat → Nat → Option Nat} {P : Nat → Nat} {m : Nat} {M : rf_M} (h : RF s B H C P m M) : ∀ v, v < m → H v = 18 ∨ H v = 19 := h.1
theorem RF.here {s : fx_S} {B H : Nat → Nat} {C : Nat → Nat → Option Nat} {P : Nat → Nat} {m : Nat} {M : rf_M} (h : RF s B H C P m M) : ∀ v, v < m → fx_fr s ff_Node_here (B v) = some (B v + H v) := h.2.1
theorem RF.com {s : fx_S} {B H : Nat → Nat} {C : Nat → Nat → Option Nat} {P : Nat → Nat} {m : Nat} {M : rf_M} (h : RF s B H C P m M) : ∀ v, v < m → fx_fr s ff_Node_coming (B v) = some (B v + (37 - H v)) := h.2.2.1
theorem RF.fl {s : fx_S} {B H : Nat → Nat} {C : Nat → Nat → Option Nat} {P : Nat → Nat} {m : Nat} {M : rf_M} (h : RF s B H C P m M) : ∀ v l, v < m → l < 4 → fx_ar s (B v + H v) l = (sol M v l).bind (fun f => fx_ar s (P (spk M f) + 1) (rn M ff_Mod_number f)) := h.2.2.2.1
theorem RF.ent {s : fx_S} {B H : Nat → Nat} {C : Nat → Nat → Option Nat} {P : Nat → Nat} {m : Nat} {M : rf_M} (h : RF s B H C P m M) : ∀ f F, f < (rn M ff_Mod_flits 0) → fx_ar s (P (spk M f) + 1) (rn M ff_Mod_number f) = some F → fx_fi s ff_Flit_entry F = M ff_Mod_entry f := h.2.2.2.2.1
theorem RF.att {s : fx_S} {B H : Nat → Nat} {C : Nat → Nat → Option Nat} {P : Nat → Nat} {m : Nat} {M : rf_M} (h : RF s B H C P m M) : ∀ f F, f < (rn M ff_Mod_flits 0) → fx_ar s (P (spk M f) + 1) (rn M ff_Mod_number f) = some F → fx_fi s ff_Flit_attempt F = M ff_Mod_tries f := h.2.2.2.2.2.1
theorem RF.cm {s : fx_S} {B H : Nat → Nat} {C : Nat → Nat → Option Nat} {P : Nat → Nat} {m : Nat} {M : rf_M} (h : RF s B H C P m M) : ∀ u w, u < m → w < 4 → fx_ar s (B u + (37 - H u)) w = C u w := h.2.2.2.2.2.2
/-- nothing comes in yet -/
def RC (s : fx_S) (B H : Nat → Nat) (m : Nat) : Prop := ∀ v l, v < m → l < 4 → fx_ar s (B v + (37 - H v)) l = none
/-- how many bits are set -/
def pcn (h : Nat) : Nat := sp_cnt (fun b => h.testBit b) 8
/-- a receiver -/
def RV1 (s : fx_S) (b : Nat) (Y P : Nat → Nat) (v : Nat) (M : rf_M) : Prop := (fx_fi s ff_Receiver_readyCount (b + 5) = M ff_Mod_readySize v) ∧ (∀ i, i < 4 → fx_fr s ff_Place_packet (b + 10 + i) = (oz (M ff_Mod_whose (4 * v + i))).map P) ∧ (∀ i, i < 4 → oz (M ff_Mod_whose (4 * v + i)) ≠ none → fx_fi s ff_Place_attempt (b + 10 + i) = M ff_Mod_whichTry (4 * v + i)) ∧ (∀ i, i < 4 → oz (M ff_Mod_whose (4 * v + i)) ≠ none → fx_fi s ff_Place_joined (b + 10 + i) = nI (pcn (rn M ff_Mod_has (4 * v + i)))) ∧ (∀ i, i < 4 → fx_ar s (b + 9) i = some (Y i)) ∧ (fx_fr s ff_Receiver_last (b + 5) = some (Y 4)) ∧ (∀ i j, i < 5 → j < 5 → Y i = Y j → i = j) ∧ (∀ i, i < 5 → b ≤ Y i ∧ Y i < b + 20) ∧ (∀ i, i < rn M ff_Mod_readySize v → fx_fi s ff_Arrival_source (Y i) = M ff_Mod_readySource (4 * v + i)) ∧ (∀ i, i < rn M ff_Mod_readySize v → fx_fi s ff_Arrival_length (Y i) = M ff_Mod_readyLength (4 * v + i)) ∧ (∀ i, i < rn M ff_Mod_readySize v → fx_fi s ff_Arrival_attempt (Y i) = M ff_Mod_readyTry (4 * v + i)) ∧ (∀ i, i < rn M ff_Mod_readySize v → fx_fi s ff_Arrival_tag (Y i) = M ff_Mod_readyTag (4 * v + i)) ∧ (∃ h, fx_fi s ff_Receiver_hasHandedOver (b + 5) = fx_bit h ∧ (h = false → ∀ j, j < 3 → M ff_Mod_taken (3 * v + j) = fx_neg) ∧ (h = true → fx_fi s ff_Arrival_source (Y 4) = M ff_Mod_taken (3 * v) ∧ fx_fi s ff_Arrival_length (Y 4) = M ff_Mod_taken (3 * v + 1) ∧ fx_fi s ff_Arrival_attempt (Y 4) = M ff_Mod_taken (3 * v + 2)))
theorem RV1.cnt {s : fx_S} {b : Nat} {Y P : Nat → Nat} {v : Nat} {M : rf_M} (h : RV1 s b Y P v M) : fx_fi s ff_Receiver_readyCount (b + 5) = M ff_Mod_readySize v := h.1
theorem RV1.pk {s : fx_S} {b : Nat} {Y P : Nat → Nat} {v : Nat} {M : rf_M} (h : RV1 s b Y P v M) : ∀ i, i < 4 → fx_fr s ff_Place_packet (b + 10 + i) = (oz (M ff_Mod_whose (4 * v + i))).map P := h.2.1
theorem RV1.pa {s : fx_S} {b : Nat} {Y P : Nat → Nat} {v : Nat} {M : rf_M} (h : RV1 s b Y P v M) : ∀ i, i < 4 → oz (M ff_Mod_whose (4 * v + i)) ≠ none → fx_fi s ff_Place_attempt (b + 10 + i) = M ff_Mod_whichTry (4 * v + i) := h.2.2.1
theorem RV1.pj {s : fx_S} {b : Nat} {Y P : Nat → Nat} {v : Nat} {M : rf_M} (h : RV1 s b Y P v M) : ∀ i, i < 4 → oz (M ff_Mod_whose (4 * v + i)) ≠ none → fx_fi s ff_Place_joined (b + 10 + i) = nI (pcn (rn M ff_Mod_has (4 * v + i))) := h.2.2.2.1
theorem RV1.yr {s : fx_S} {b : Nat} {Y P : Nat → Nat} {v : Nat} {M : rf_M} (h : RV1 s b Y P v M) : ∀ i, i < 4 → fx_ar s (b + 9) i = some (Y i) := h.2.2.2.2.1
theorem RV1.yl {s : fx_S} {b : Nat} {Y P : Nat → Nat} {v : Nat} {M : rf_M} (h : RV1 s b Y P v M) : fx_fr s ff_Receiver_last (b + 5) = some (Y 4) := h.2.2.2.2.2.1
theorem RV1.yi {s : fx_S} {b : Nat} {Y P : Nat → Nat} {v : Nat} {M : rf_M} (h : RV1 s b Y P v M) : ∀ i j, i < 5 → j < 5 → Y i = Y j → i = j := h.2.2.2.2.2.2.1
theorem RV1.yin {s : fx_S} {b : Nat} {Y P : Nat → Nat} {v : Nat} {M : rf_M} (h : RV1 s b Y P v M) : ∀ i, i < 5 → b ≤ Y i ∧ Y i < b + 20 := h.2.2.2.2.2.2.2.1
theorem RV1.rs {s : fx_S} {b : Nat} {Y P : Nat → Nat} {v : Nat} {M : rf_M} (h : RV1 s b Y P v M) : ∀ i, i < rn M ff_Mod_readySize v → fx_fi s ff_Arrival_source (Y i) = M ff_Mod_readySource (4 * v + i) := h.2.2.2.2.2.2.2.2.1
theorem RV1.rl {s : fx_S} {b : Nat} {Y P : Nat → Nat} {v : Nat} {M : rf_M} (h : RV1 s b Y P v M) : ∀ i, i < rn M ff_Mod_readySize v → fx_fi s ff_Arrival_length (Y i) = M ff_Mod_readyLength (4 * v + i) := h.2.2.2.2.2.2.2.2.2.1
theorem RV1.rt {s : fx_S} {b : Nat} {Y P : Nat → Nat} {v : Nat} {M : rf_M} (h : RV1 s b Y P v M) : ∀ i, i < rn M ff_Mod_readySize v → fx_fi s ff_Arrival_attempt (Y i) = M ff_Mod_readyTry (4 * v + i) := h.2.2.2.2.2.2.2.2.2.2.1
theorem RV1.rg {s : fx_S} {b : Nat} {Y P : Nat → Nat} {v : Nat} {M : rf_M} (h : RV1 s b Y P v M) : ∀ i, i < rn M ff_Mod_readySize v → fx_fi s ff_Arrival_tag (Y i) = M ff_Mod_readyTag (4 * v + i) := h.2.2.2.2.2.2.2.2.2.2.2.1
theorem RV1.hh {s : fx_S} {b : Nat} {Y P : Nat → Nat} {v : Nat} {M : rf_M} (h : RV1 s b Y P v M) : ∃ h, fx_fi s ff_Receiver_hasHandedOver (b + 5) = fx_bit h ∧ (h = false → ∀ j, j < 3 → M ff_Mod_taken (3 * v + j) = fx_neg) ∧ (h = true → fx_fi s ff_Arrival_source (Y 4) = M ff_Mod_taken (3 * v) ∧ fx_fi s ff_Arrival_length (Y 4) = M ff_Mod_taken (3 * v + 1) ∧ fx_fi s ff_Arrival_attempt (Y 4) = M ff_Mod_taken (3 * v + 2)) := h.2.2.2.2.2.2.2.2.2.2.2.2
def RV (s : fx_S) (B : Nat → Nat) (Y : Nat → Nat → Nat) (P : Nat → Nat) (m : Nat) (M : rf_M) : Prop := ∀ v, v < m → RV1 s (B v) (Y v) P v M
/-- all of it -/
def RA (s : fx_S) (x : Nat) (B H : Nat → Nat) (C : Nat → Nat → Option Nat) (Y : Nat → Nat → Nat) (P : Nat → Nat) (m : Nat) (rt : Nat → List Nat) (K : Nat → Prop) (L : List Nat) (M : rf_M) : Prop := (SK s x B m) ∧ (RT s x M) ∧ (RG s x M) ∧ (RS s B P m M) ∧ (RP s P M) ∧ (RW s B rt m M) ∧ (RR s x B m rt) ∧ (RX x B P m rt M) ∧ (RM s x P rt L M) ∧ (RO x B P m rt K M) ∧ (RK s x B P m rt K M) ∧ (RF s B H C P m M) ∧ (RV s B Y P m M) ∧ ((rn M ff_Mod_all 0) ≤ m)
theorem RA.sk {s : fx_S} {x : Nat} {B H : Nat → Nat} {C : Nat → Nat → Option Nat} {Y : Nat → Nat → Nat} {P : Nat → Nat} {m : Nat} {rt : Nat → List Nat} {K : Nat → Prop} {L : List Nat} {M : rf_M} (h : RA s x B H C Y P m rt K L M) : SK s x B m := h.1
theorem RA.t {s : fx_S} {x : Nat} {B H : Nat → Nat} {C : Nat → Nat → Option Nat} {Y : Nat → Nat → Nat} {P : Nat → Nat} {m : Nat} {rt : Nat → List Nat} {K : Nat → Prop} {L : List Nat} {M : rf_M} (h : RA s x B H C Y P m rt K L M) : RT s x M := h.2.1
theorem RA.g {s : fx_S} {x : Nat} {B H : Nat → Nat} {C : Nat → Nat → Option Nat} {Y : Nat → Nat → Nat} {P : Nat → Nat} {m : Nat} {rt : Nat → List Nat} {K : Nat → Prop} {L : List Nat} {M : rf_M} (h : RA s x B H C Y P m rt K L M) : RG s x M := h.2.2.1
theorem RA.s {s : fx_S} {x : Nat} {B H : Nat → Nat} {C : Nat → Nat → Option Nat} {Y : Nat → Nat → Nat} {P : Nat → Nat} {m : Nat} {rt : Nat → List Nat} {K : Nat → Prop} {L : List Nat} {M : rf_M} (h : RA s x B H C Y P m rt K L M) : RS s B P m M := h.2.2.2.1
theorem RA.p {s : fx_S} {x : Nat} {B H : Nat → Nat} {C : Nat → Nat → Option Nat} {Y : Nat → Nat → Nat} {P : Nat → Nat} {m : Nat} {rt : Nat → List Nat} {K : Nat → Prop} {L : List Nat} {M : rf_M} (h : RA s x B H C Y P m rt K L M) : RP s P M := h.2.2.2.2.1
theorem RA.w {s : fx_S} {x : Nat} {B H : Nat → Nat} {C : Nat → Nat → Option Nat} {Y : Nat → Nat → Nat} {P : Nat → Nat} {m : Nat} {rt : Nat → List Nat} {K : Nat → Prop} {L : List Nat} {M : rf_M} (h : RA s x B H C Y P m rt K L M) : RW s B rt m M := h.2.2.2.2.2.1
theorem RA.r {s : fx_S} {x : Nat} {B H : Nat → Nat} {C : Nat → Nat → Option Nat} {Y : Nat → Nat → Nat} {P : Nat → Nat} {m : Nat} {rt : Nat → List Nat} {K : Nat → Prop} {L : List Nat} {M : rf_M} (h : RA s x B H C Y P m rt K L M) : RR s x B m rt := h.2.2.2.2.2.2.1
theorem RA.x {s : fx_S} {x : Nat} {B H : Nat → Nat} {C : Nat → Nat → Option Nat} {Y : Nat → Nat → Nat} {P : Nat → Nat} {m : Nat} {rt : Nat → List Nat} {K : Nat → Prop} {L : List Nat} {M : rf_M} (h : RA s x B H C Y P m rt K L M) : RX x B P m rt M := h.2.2.2.2.2.2.2.1
theorem RA.m {s : fx_S} {x : Nat} {B H : Nat → Nat} {C : Nat → Nat → Option Nat} {Y : Nat → Nat → Nat} {P : Nat → Nat} {m : Nat} {rt : Nat → List Nat} {K : Nat → Prop} {L : List Nat} {M : rf_M} (h : RA s x B H C Y P m rt K L M) : RM s x P rt L M := h.2.2.2.2.2.2.2.2.1
theorem RA.o {s : fx_S} {x : Nat} {B H : Nat → Nat} {C : Nat → Nat → Option Nat} {Y : Nat → Nat → Nat} {P : Nat → Nat} {m : Nat} {rt : Nat → List Nat} {K : Nat → Prop} {L : List Nat} {M : rf_M} (h : RA s x B H C Y P m rt K L M) : RO x B P m rt K M := h.2.2.2.2.2.2.2.2.2.1
theorem RA.k {s : fx_S} {x : Nat} {B H : Nat → Nat} {C : Nat → Nat → Option Nat} {Y : Nat → Nat → Nat} {P : Nat → Nat} {m : Nat} {rt : Nat → List Nat} {K : Nat → Prop} {L : List Nat} {M : rf_M} (h : RA s x B H C Y P m rt K L M) : RK s x B P m rt K M := h.2.2.2.2.2.2.2.2.2.2.1
theorem RA.f {s : fx_S} {x : Nat} {B H : Nat → Nat} {C : Nat → Nat → Option Nat} {Y : Nat → Nat → Nat} {P : Nat → Nat} {m : Nat} {rt : Nat → List Nat} {K : Nat → Prop} {L : List Nat} {M : rf_M} (h : RA s x B H C Y P m rt K L M) : RF s B H C P m M := h.2.2.2.2.2.2.2.2.2.2.2.1
theorem RA.v {s : fx_S} {x : Nat} {B H : Nat → Nat} {C : Nat → Nat → Option Nat} {Y : Nat → Nat → Nat} {P : Nat → Nat} {m : Nat} {rt : Nat → List Nat} {K : Nat → Prop} {L : List Nat} {M : rf_M} (h : RA s x B H C Y P m rt K L M) : RV s B Y P m M := h.2.2.2.2.2.2.2.2.2.2.2.2.1
theorem RA.nm {s : fx_S} {x : Nat} {B H : Nat → Nat} {C : Nat → Nat → Option Nat} {Y : Nat → Nat → Nat} {P : Nat → Nat} {m : Nat} {rt : Nat → List Nat} {K : Nat → Prop} {L : List Nat} {M : rf_M} (h : RA s x B H C Y P m rt K L M) : (rn M ff_Mod_all 0) ≤ m := h.2.2.2.2.2.2.2.2.2.2.2.2.2
