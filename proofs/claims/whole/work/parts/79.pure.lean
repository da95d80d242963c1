/-! all operations -/
theorem rel_ops : Ops Rel := ⟨op_none, op_addHouse, op_setHouse, op_removeHouse, op_buy, op_lend, op_remit, op_net, op_set, op_setBattery, op_run, op_type, op_clear, op_fault, op_load, op_undo, op_keep, op_back, op_house, op_loan, op_battery, op_feeder, op_account, op_supply, op_count, op_setting, op_ifRun, op_darkIn, op_tokenFor, op_met, op_digest⟩
