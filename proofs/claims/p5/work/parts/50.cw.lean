/-! CONTRACTS THAT SAY MORE: the tape's length is 0 behind them -/
noncomputable section
def gc_278_w : aCon := (gc_278_0.1, [(0, 2)], gc_278_0.2.2.1.map (fun al => (al.1, [(0, .ofNat 0, .ofNat 0, none)])), gc_278_0.2.2.2)
def gc_283_w : aCon := (gc_283_0.1, [(0, 2)], gc_283_0.2.2.1.map (fun al => (al.1, [(0, .ofNat 0, .ofNat 0, none)])), gc_283_0.2.2.2)
def gc_194_w : aCon := (gc_194_0.1, [(0, 2)], gc_194_0.2.2.1.map (fun al => (al.1, [(0, .ofNat 0, .ofNat 0, none)])), gc_194_0.2.2.2)
def gc_268_w : aCon := (gc_268_0.1, [(0, 2)], gc_268_0.2.2.1.map (fun al => (al.1, [(0, .ofNat 0, .ofNat 0, none)])), gc_268_0.2.2.2)
def gc_184_w : aCon := ([.inr (.inl 12), .inl (.ofNat 0, .ofNat 1)], [(0, 2)], gc_184_0.2.2.1.map (fun al => (al.1, [(0, .ofNat 0, .ofNat 0, none)])), gc_184_0.2.2.2)
end
