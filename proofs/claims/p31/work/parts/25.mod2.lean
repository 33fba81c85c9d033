/-! printed by wip/tools/gen.py:  -/


